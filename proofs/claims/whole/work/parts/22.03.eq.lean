--deps:19.lay 21.facts 22.00.names
/-! EQUATIONS over the fixed cells (written by wip/gen/sgen.py) -/
theorem S_X4_comparison {h : MH} (L : lay h) (d : Nat) (a0 : Int32) : F_X4_comparison (d + 1) a0 h = (if a0 = 35 then some (.int 17, h) else (if a0 = 60 then some (.int 12, h) else (if a0 = 61 then some (.int 16, h) else (if a0 = 62 then some (.int 14, h) else (if a0 = 256 then some (.int 13, h) else (if a0 = 257 then some (.int 15, h) else some (.int (-1), h))))))) := by
  refine mE_eq (q := (yX4_comparison, cX4_comparison, 1, (some .int), KX4_comparison)) (C := KX4_comparison) (ls := [some (.int a0)]) rfl rfl rfl rfl ?_
  refine mX_to 1 (k' := 1) (ls' := [some (.int a0)]) (st' := [.int a0]) (h' := h) rfl ?_
  refine mX_sw (x := a0) (t := 14) (sw := [(35, 12), (60, 2), (61, 10), (62, 6), (256, 4), (257, 8)]) (ls' := [some (.int a0)]) (st' := []) (h' := h) rfl ?_
  refine msw_cons ?_ ?_
  · refine mX_to 1 (k' := 13) (ls' := [some (.int a0)]) (st' := [.int 17]) (h' := h) rfl ?_
    exact mX_reti rfl
  refine msw_cons ?_ ?_
  · refine mX_to 1 (k' := 3) (ls' := [some (.int a0)]) (st' := [.int 12]) (h' := h) rfl ?_
    exact mX_reti rfl
  refine msw_cons ?_ ?_
  · refine mX_to 1 (k' := 11) (ls' := [some (.int a0)]) (st' := [.int 16]) (h' := h) rfl ?_
    exact mX_reti rfl
  refine msw_cons ?_ ?_
  · refine mX_to 1 (k' := 7) (ls' := [some (.int a0)]) (st' := [.int 14]) (h' := h) rfl ?_
    exact mX_reti rfl
  refine msw_cons ?_ ?_
  · refine mX_to 1 (k' := 5) (ls' := [some (.int a0)]) (st' := [.int 13]) (h' := h) rfl ?_
    exact mX_reti rfl
  refine msw_cons ?_ ?_
  · refine mX_to 1 (k' := 9) (ls' := [some (.int a0)]) (st' := [.int 15]) (h' := h) rfl ?_
    exact mX_reti rfl
  refine msw_nil ?_
  refine mX_to 1 (k' := 15) (ls' := [some (.int a0)]) (st' := [.int (-1)]) (h' := h) rfl ?_
  exact mX_reti rfl
theorem S_X4_ask {h : MH} (L : lay h) (d : Nat) (a1 : Int32) : F_X4_ask (d + 1) a1 h = cI (F_X4_kind d h) (fun x2 h1 => (if x2 = 323 then cI (F_X4_denial d a1 h1) (fun x4 h3 => ck (mrt 1 x4) (some (.int x4, h3))) else cI (F_X4_sum d a1 h1) (fun x6 h5 => (if x6 = 0 then some (.int 0, h5) else cI (F_X4_kind d h5) (fun x8 h7 => cI (F_X4_comparison d x8 h7) (fun x10 h9 => (if x10 = (-1) then cI (F_X4_refuse d 1 h9) (fun x12 h11 => ck (mrt 1 x12) (some (.int x12, h11))) else cV (F_X4_advance d h9) (fun h13 => cI (F_X4_sum d a1 h13) (fun x15 h14 => cI (F_X4_emit d x10 0 h14) (fun x17 h16 => ck (mrt 1 x15) (some (.int x15, h16)))))))))))) := by
  refine mE_eq (q := (yX4_ask, cX4_ask, 4, (some .boolean), KX4_ask)) (C := KX4_ask) (ls := [some (.ref 55), some (.int a1), none, none]) rfl rfl rfl rfl ?_
  refine mX_to 1 (k' := 1) (ls' := [some (.ref 55), some (.int a1), none, none]) (st' := [.ref 55]) (h' := h) rfl ?_
  refine mX_ckct (m := mcl (mE mtab d 68 [.ref 55] h) 1 2 [some (.ref 55), some (.int a1), none, none] []) (k_55 L) rfl ?_
  refine mk_cIe (o := F_X4_kind d h) ?_
  intro x2 h1 eh1
  have L1 : lay h1 := lay_call d 68 [.ref 55] h _ h1 rfl eh1 L
  refine mX_to 1 (k' := 3) (ls' := [some (.ref 55), some (.int a1), none, none]) (st' := [.int 323, .int x2]) (h' := h1) rfl ?_
  refine mX_br (t := 4) (f := 8) (ls' := [some (.ref 55), some (.int a1), none, none]) (st' := []) (h' := h1) rfl ?_ ?_
  · refine mX_to 2 (k' := 6) (ls' := [some (.ref 55), some (.int a1), none, none]) (st' := [.int a1, .ref 55]) (h' := h1) rfl ?_
    refine mX_ckct (m := mcl (mE mtab d 75 [.ref 55, .int a1] h1) 1 7 [some (.ref 55), some (.int a1), none, none] []) (k_55 L1) rfl ?_
    refine mk_cIe (o := F_X4_denial d a1 h1) ?_
    intro x4 h3 eh3
    have L3 : lay h3 := lay_call d 75 [.ref 55, .int a1] h1 _ h3 rfl eh3 L1
    exact mX_retc rfl
  · refine mX_to 2 (k' := 10) (ls' := [some (.ref 55), some (.int a1), none, none]) (st' := [.int a1, .ref 55]) (h' := h1) rfl ?_
    refine mX_ckct (m := mcl (mE mtab d 84 [.ref 55, .int a1] h1) 1 11 [some (.ref 55), some (.int a1), none, none] []) (k_55 L1) rfl ?_
    refine mk_cIe (o := F_X4_sum d a1 h1) ?_
    intro x6 h5 eh5
    have L5 : lay h5 := lay_call d 84 [.ref 55, .int a1] h1 _ h5 rfl eh5 L1
    refine mX_br (t := 12) (f := 14) (ls' := [some (.ref 55), some (.int a1), none, none]) (st' := []) (h' := h5) rfl ?_ ?_
    · refine mX_to 1 (k' := 13) (ls' := [some (.ref 55), some (.int a1), none, none]) (st' := [.int 0]) (h' := h5) rfl ?_
      exact mX_retb (by decide) rfl
    · refine mX_to 1 (k' := 15) (ls' := [some (.ref 55), some (.int a1), none, none]) (st' := [.ref 55]) (h' := h5) rfl ?_
      refine mX_ckct (m := mcl (mE mtab d 68 [.ref 55] h5) 1 16 [some (.ref 55), some (.int a1), none, none] []) (k_55 L5) rfl ?_
      refine mk_cIe (o := F_X4_kind d h5) ?_
      intro x8 h7 eh7
      have L7 : lay h7 := lay_call d 68 [.ref 55] h5 _ h7 rfl eh7 L5
      refine mX_cIe (o := F_X4_comparison d x8 h7) (k' := 17) (ls' := [some (.ref 55), some (.int a1), none, none]) (st' := []) rfl ?_
      intro x10 h9 eh9
      have L9 : lay h9 := lay_call d 76 [.int x8] h7 _ h9 rfl eh9 L7
      refine mX_to 3 (k' := 20) (ls' := [some (.ref 55), some (.int a1), some (.int x10), none]) (st' := [.int (-1), .int x10]) (h' := h9) rfl ?_
      refine mX_br (t := 21) (f := 25) (ls' := [some (.ref 55), some (.int a1), some (.int x10), none]) (st' := []) (h' := h9) rfl ?_ ?_
      · refine mX_to 2 (k' := 23) (ls' := [some (.ref 55), some (.int a1), some (.int x10), none]) (st' := [.int 1, .ref 55]) (h' := h9) rfl ?_
        refine mX_ckct (m := mcl (mE mtab d 69 [.ref 55, .int 1] h9) 1 24 [some (.ref 55), some (.int a1), some (.int x10), none] []) (k_55 L9) rfl ?_
        refine mk_cIe (o := F_X4_refuse d 1 h9) ?_
        intro x12 h11 eh11
        have L11 : lay h11 := lay_call d 69 [.ref 55, .int 1] h9 _ h11 rfl eh11 L9
        exact mX_retc rfl
      · refine mX_to 1 (k' := 26) (ls' := [some (.ref 55), some (.int a1), some (.int x10), none]) (st' := [.ref 55]) (h' := h9) rfl ?_
        refine mX_ckct (m := mcl (mE mtab d 70 [.ref 55] h9) 0 27 [some (.ref 55), some (.int a1), some (.int x10), none] []) (k_55 L9) rfl ?_
        refine mk_cVe (o := F_X4_advance d h9) ?_
        intro wh13 h13 eh13
        have L13 : lay h13 := lay_call d 70 [.ref 55] h9 _ h13 rfl eh13 L9
        refine mX_to 2 (k' := 29) (ls' := [some (.ref 55), some (.int a1), some (.int x10), none]) (st' := [.int a1, .ref 55]) (h' := h13) rfl ?_
        refine mX_ckct (m := mcl (mE mtab d 84 [.ref 55, .int a1] h13) 1 30 [some (.ref 55), some (.int a1), some (.int x10), none] []) (k_55 L13) rfl ?_
        refine mk_cIe (o := F_X4_sum d a1 h13) ?_
        intro x15 h14 eh14
        have L14 : lay h14 := lay_call d 84 [.ref 55, .int a1] h13 _ h14 rfl eh14 L13
        refine mX_to 4 (k' := 34) (ls' := [some (.ref 55), some (.int a1), some (.int x10), some (.int x15)]) (st' := [.int 0, .int x10, .ref 55]) (h' := h14) rfl ?_
        refine mX_ckct (m := mcl (mE mtab d 71 [.ref 55, .int x10, .int 0] h14) 1 35 [some (.ref 55), some (.int a1), some (.int x10), some (.int x15)] []) (k_55 L14) rfl ?_
        refine mk_cIe (o := F_X4_emit d x10 0 h14) ?_
        intro x17 h16 eh16
        have L16 : lay h16 := lay_call d 71 [.ref 55, .int x10, .int 0] h14 _ h16 rfl eh16 L14
        refine mX_to 2 (k' := 37) (ls' := [some (.ref 55), some (.int a1), some (.int x10), some (.int x15)]) (st' := [.int x15]) (h' := h16) rfl ?_
        exact mX_retc rfl
theorem S_X4_both_6 {h : MH} (L : lay h) (d : Nat) (l1 : Int32) (l2 : Int32) (l3 : Int32) : G_X4_both_6 d l1 l2 l3 h = (if l3 < 300 then (if l2 = 0 then ck (mrt 1 l2) (some (.int l2, h)) else cI (F_X4_kind d h) (fun x4 h3 => (if x4 = 322 then cV (F_X4_advance d h3) (fun h5 => cI (F_X4_ask d l1 h5) (fun x7 h6 => cI (F_X4_emit d 19 0 h6) (fun x9 h8 => G_X4_both_6 d l1 x7 (l3 + 1) h8))) else ck (mrt 1 l2) (some (.int l2, h3))))) else ck (mrt 1 l2) (some (.int l2, h))) := by
  refine mX_to 2 (k' := 8) (ls' := [some (.ref 55), some (.int l1), some (.int l2), some (.int l3)]) (st' := [.int 300, .int l3]) (h' := h) rfl ?_
  refine mX_br (t := 9) (f := 28) (ls' := [some (.ref 55), some (.int l1), some (.int l2), some (.int l3)]) (st' := []) (h' := h) rfl ?_ ?_
  · refine mX_to 1 (k' := 10) (ls' := [some (.ref 55), some (.int l1), some (.int l2), some (.int l3)]) (st' := [.int l2]) (h' := h) rfl ?_
    refine mX_br (t := 28) (f := 11) (ls' := [some (.ref 55), some (.int l1), some (.int l2), some (.int l3)]) (st' := []) (h' := h) rfl ?_ ?_
    · refine mX_to 1 (k' := 29) (ls' := [some (.ref 55), some (.int l1), some (.int l2), some (.int l3)]) (st' := [.int l2]) (h' := h) rfl ?_
      exact mX_retc rfl
    · refine mX_to 1 (k' := 12) (ls' := [some (.ref 55), some (.int l1), some (.int l2), some (.int l3)]) (st' := [.ref 55]) (h' := h) rfl ?_
      refine mX_ckct (m := mcl (mE mtab d 68 [.ref 55] h) 1 13 [some (.ref 55), some (.int l1), some (.int l2), some (.int l3)] []) (k_55 L) rfl ?_
      refine mk_cIe (o := F_X4_kind d h) ?_
      intro x4 h3 eh3
      have L3 : lay h3 := lay_call d 68 [.ref 55] h _ h3 rfl eh3 L
      refine mX_to 1 (k' := 14) (ls' := [some (.ref 55), some (.int l1), some (.int l2), some (.int l3)]) (st' := [.int 322, .int x4]) (h' := h3) rfl ?_
      refine mX_br (t := 15) (f := 28) (ls' := [some (.ref 55), some (.int l1), some (.int l2), some (.int l3)]) (st' := []) (h' := h3) rfl ?_ ?_
      · refine mX_to 1 (k' := 16) (ls' := [some (.ref 55), some (.int l1), some (.int l2), some (.int l3)]) (st' := [.ref 55]) (h' := h3) rfl ?_
        refine mX_ckct (m := mcl (mE mtab d 70 [.ref 55] h3) 0 17 [some (.ref 55), some (.int l1), some (.int l2), some (.int l3)] []) (k_55 L3) rfl ?_
        refine mk_cVe (o := F_X4_advance d h3) ?_
        intro wh5 h5 eh5
        have L5 : lay h5 := lay_call d 70 [.ref 55] h3 _ h5 rfl eh5 L3
        refine mX_to 2 (k' := 19) (ls' := [some (.ref 55), some (.int l1), some (.int l2), some (.int l3)]) (st' := [.int l1, .ref 55]) (h' := h5) rfl ?_
        refine mX_ckct (m := mcl (mE mtab d 77 [.ref 55, .int l1] h5) 1 20 [some (.ref 55), some (.int l1), some (.int l2), some (.int l3)] []) (k_55 L5) rfl ?_
        refine mk_cIe (o := F_X4_ask d l1 h5) ?_
        intro x7 h6 eh6
        have L6 : lay h6 := lay_call d 77 [.ref 55, .int l1] h5 _ h6 rfl eh6 L5
        refine mX_to 4 (k' := 24) (ls' := [some (.ref 55), some (.int l1), some (.int x7), some (.int l3)]) (st' := [.int 0, .int 19, .ref 55]) (h' := h6) rfl ?_
        refine mX_ckct (m := mcl (mE mtab d 71 [.ref 55, .int 19, .int 0] h6) 1 25 [some (.ref 55), some (.int l1), some (.int x7), some (.int l3)] []) (k_55 L6) rfl ?_
        refine mk_cIe (o := F_X4_emit d 19 0 h6) ?_
        intro x9 h8 eh8
        have L8 : lay h8 := lay_call d 71 [.ref 55, .int 19, .int 0] h6 _ h8 rfl eh8 L6
        refine mX_to 3 (k' := 6) (ls' := [some (.ref 55), some (.int l1), some (.int x7), some (.int (l3 + 1))]) (st' := []) (h' := h8) rfl ?_
        rfl
      · refine mX_to 1 (k' := 29) (ls' := [some (.ref 55), some (.int l1), some (.int l2), some (.int l3)]) (st' := [.int l2]) (h' := h3) rfl ?_
        exact mX_retc rfl
  · refine mX_to 1 (k' := 29) (ls' := [some (.ref 55), some (.int l1), some (.int l2), some (.int l3)]) (st' := [.int l2]) (h' := h) rfl ?_
    exact mX_retc rfl
theorem S_X4_both {h : MH} (L : lay h) (d : Nat) (a1 : Int32) : F_X4_both (d + 1) a1 h = cI (F_X4_ask d a1 h) (fun x2 h1 => G_X4_both_6 d a1 x2 0 h1) := by
  refine mE_eq (q := (yX4_both, cX4_both, 4, (some .boolean), KX4_both)) (C := KX4_both) (ls := [some (.ref 55), some (.int a1), none, none]) rfl rfl rfl rfl ?_
  refine mX_to 2 (k' := 2) (ls' := [some (.ref 55), some (.int a1), none, none]) (st' := [.int a1, .ref 55]) (h' := h) rfl ?_
  refine mX_ckct (m := mcl (mE mtab d 77 [.ref 55, .int a1] h) 1 3 [some (.ref 55), some (.int a1), none, none] []) (k_55 L) rfl ?_
  refine mk_cIe (o := F_X4_ask d a1 h) ?_
  intro x2 h1 eh1
  have L1 : lay h1 := lay_call d 77 [.ref 55, .int a1] h _ h1 rfl eh1 L
  refine mX_to 3 (k' := 6) (ls' := [some (.ref 55), some (.int a1), some (.int x2), some (.int 0)]) (st' := []) (h' := h1) rfl ?_
  rfl
theorem S_X4_either_6 {h : MH} (L : lay h) (d : Nat) (l1 : Int32) (l2 : Int32) (l3 : Int32) : G_X4_either_6 d l1 l2 l3 h = (if l3 < 300 then (if l2 = 0 then ck (mrt 1 l2) (some (.int l2, h)) else cI (F_X4_kind d h) (fun x4 h3 => (if x4 = 321 then cV (F_X4_advance d h3) (fun h5 => cI (F_X4_both d l1 h5) (fun x7 h6 => cI (F_X4_emit d 18 0 h6) (fun x9 h8 => G_X4_either_6 d l1 x7 (l3 + 1) h8))) else ck (mrt 1 l2) (some (.int l2, h3))))) else ck (mrt 1 l2) (some (.int l2, h))) := by
  refine mX_to 2 (k' := 8) (ls' := [some (.ref 55), some (.int l1), some (.int l2), some (.int l3)]) (st' := [.int 300, .int l3]) (h' := h) rfl ?_
  refine mX_br (t := 9) (f := 28) (ls' := [some (.ref 55), some (.int l1), some (.int l2), some (.int l3)]) (st' := []) (h' := h) rfl ?_ ?_
  · refine mX_to 1 (k' := 10) (ls' := [some (.ref 55), some (.int l1), some (.int l2), some (.int l3)]) (st' := [.int l2]) (h' := h) rfl ?_
    refine mX_br (t := 28) (f := 11) (ls' := [some (.ref 55), some (.int l1), some (.int l2), some (.int l3)]) (st' := []) (h' := h) rfl ?_ ?_
    · refine mX_to 1 (k' := 29) (ls' := [some (.ref 55), some (.int l1), some (.int l2), some (.int l3)]) (st' := [.int l2]) (h' := h) rfl ?_
      exact mX_retc rfl
    · refine mX_to 1 (k' := 12) (ls' := [some (.ref 55), some (.int l1), some (.int l2), some (.int l3)]) (st' := [.ref 55]) (h' := h) rfl ?_
      refine mX_ckct (m := mcl (mE mtab d 68 [.ref 55] h) 1 13 [some (.ref 55), some (.int l1), some (.int l2), some (.int l3)] []) (k_55 L) rfl ?_
      refine mk_cIe (o := F_X4_kind d h) ?_
      intro x4 h3 eh3
      have L3 : lay h3 := lay_call d 68 [.ref 55] h _ h3 rfl eh3 L
      refine mX_to 1 (k' := 14) (ls' := [some (.ref 55), some (.int l1), some (.int l2), some (.int l3)]) (st' := [.int 321, .int x4]) (h' := h3) rfl ?_
      refine mX_br (t := 15) (f := 28) (ls' := [some (.ref 55), some (.int l1), some (.int l2), some (.int l3)]) (st' := []) (h' := h3) rfl ?_ ?_
      · refine mX_to 1 (k' := 16) (ls' := [some (.ref 55), some (.int l1), some (.int l2), some (.int l3)]) (st' := [.ref 55]) (h' := h3) rfl ?_
        refine mX_ckct (m := mcl (mE mtab d 70 [.ref 55] h3) 0 17 [some (.ref 55), some (.int l1), some (.int l2), some (.int l3)] []) (k_55 L3) rfl ?_
        refine mk_cVe (o := F_X4_advance d h3) ?_
        intro wh5 h5 eh5
        have L5 : lay h5 := lay_call d 70 [.ref 55] h3 _ h5 rfl eh5 L3
        refine mX_to 2 (k' := 19) (ls' := [some (.ref 55), some (.int l1), some (.int l2), some (.int l3)]) (st' := [.int l1, .ref 55]) (h' := h5) rfl ?_
        refine mX_ckct (m := mcl (mE mtab d 78 [.ref 55, .int l1] h5) 1 20 [some (.ref 55), some (.int l1), some (.int l2), some (.int l3)] []) (k_55 L5) rfl ?_
        refine mk_cIe (o := F_X4_both d l1 h5) ?_
        intro x7 h6 eh6
        have L6 : lay h6 := lay_call d 78 [.ref 55, .int l1] h5 _ h6 rfl eh6 L5
        refine mX_to 4 (k' := 24) (ls' := [some (.ref 55), some (.int l1), some (.int x7), some (.int l3)]) (st' := [.int 0, .int 18, .ref 55]) (h' := h6) rfl ?_
        refine mX_ckct (m := mcl (mE mtab d 71 [.ref 55, .int 18, .int 0] h6) 1 25 [some (.ref 55), some (.int l1), some (.int x7), some (.int l3)] []) (k_55 L6) rfl ?_
        refine mk_cIe (o := F_X4_emit d 18 0 h6) ?_
        intro x9 h8 eh8
        have L8 : lay h8 := lay_call d 71 [.ref 55, .int 18, .int 0] h6 _ h8 rfl eh8 L6
        refine mX_to 3 (k' := 6) (ls' := [some (.ref 55), some (.int l1), some (.int x7), some (.int (l3 + 1))]) (st' := []) (h' := h8) rfl ?_
        rfl
      · refine mX_to 1 (k' := 29) (ls' := [some (.ref 55), some (.int l1), some (.int l2), some (.int l3)]) (st' := [.int l2]) (h' := h3) rfl ?_
        exact mX_retc rfl
  · refine mX_to 1 (k' := 29) (ls' := [some (.ref 55), some (.int l1), some (.int l2), some (.int l3)]) (st' := [.int l2]) (h' := h) rfl ?_
    exact mX_retc rfl
theorem S_X4_either {h : MH} (L : lay h) (d : Nat) (a1 : Int32) : F_X4_either (d + 1) a1 h = cI (F_X4_both d a1 h) (fun x2 h1 => G_X4_either_6 d a1 x2 0 h1) := by
  refine mE_eq (q := (yX4_either, cX4_either, 4, (some .boolean), KX4_either)) (C := KX4_either) (ls := [some (.ref 55), some (.int a1), none, none]) rfl rfl rfl rfl ?_
  refine mX_to 2 (k' := 2) (ls' := [some (.ref 55), some (.int a1), none, none]) (st' := [.int a1, .ref 55]) (h' := h) rfl ?_
  refine mX_ckct (m := mcl (mE mtab d 78 [.ref 55, .int a1] h) 1 3 [some (.ref 55), some (.int a1), none, none] []) (k_55 L) rfl ?_
  refine mk_cIe (o := F_X4_both d a1 h) ?_
  intro x2 h1 eh1
  have L1 : lay h1 := lay_call d 78 [.ref 55, .int a1] h _ h1 rfl eh1 L
  refine mX_to 3 (k' := 6) (ls' := [some (.ref 55), some (.int a1), some (.int x2), some (.int 0)]) (st' := []) (h' := h1) rfl ?_
  rfl
theorem S_X4_aim {h : MH} (L : lay h) (d : Nat) (a1 : Int32) : F_X4_aim (d + 1) a1 h = cI (F_X10_within d a1 0 ((gI h 55 7) - 1) h) (fun x2 h1 => (if x2 = 0 then some (.int 0, h1) else ck (ib a1 300) (ck (ib a1 300) (lt_ (sI h1 59 (ix a1) (((gI h1 55 7) <<< (5 &&& 31)) ||| ((gI h1 59 (ix a1)) &&& 31))) fun h4 => some (.int 0, h4))))) := by
  refine mE_eq (q := (yX4_aim, cX4_aim, 2, none, KX4_aim)) (C := KX4_aim) (ls := [some (.ref 55), some (.int a1)]) rfl rfl rfl rfl ?_
  refine mX_to 3 (k' := 3) (ls' := [some (.ref 55), some (.int a1)]) (st' := [.ref 55, .int 0, .int a1]) (h' := h) rfl ?_
  refine mX_ckv (v := .int (gI h 55 7)) (v' := .int (gI h 55 7)) (k' := 4) (ls' := [some (.ref 55), some (.int a1)]) (st' := [.int 0, .int a1]) (h' := h) (k_55 L) rfl rfl ?_
  refine mX_to 2 (k' := 6) (ls' := [some (.ref 55), some (.int a1)]) (st' := [.int ((gI h 55 7) - 1), .int 0, .int a1]) (h' := h) rfl ?_
  refine mX_cIe (o := F_X10_within d a1 0 ((gI h 55 7) - 1) h) (k' := 7) (ls' := [some (.ref 55), some (.int a1)]) (st' := []) rfl ?_
  intro x2 h1 eh1
  have L1 : lay h1 := lay_call d 11 [.int a1, .int 0, .int ((gI h 55 7) - 1)] h _ h1 rfl eh1 L
  refine mX_br (t := 23) (f := 8) (ls' := [some (.ref 55), some (.int a1)]) (st' := []) (h' := h1) rfl ?_ ?_
  · exact mX_ret rfl
  · refine mX_to 1 (k' := 9) (ls' := [some (.ref 55), some (.int a1)]) (st' := [.ref 55]) (h' := h1) rfl ?_
    refine mX_ckv (v := .ref (gR h1 55 4)) (v' := .ref 59) (k' := 10) (ls' := [some (.ref 55), some (.int a1)]) (st' := []) (h' := h1) (k_55 L1) (congrArg Value.ref (r_55_4 L1)) rfl ?_
    refine mX_to 2 (k' := 12) (ls' := [some (.ref 55), some (.int a1)]) (st' := [.ref 55, .int a1, .ref 59]) (h' := h1) rfl ?_
    refine mX_ckv (v := .int (gI h1 55 7)) (v' := .int (gI h1 55 7)) (k' := 13) (ls' := [some (.ref 55), some (.int a1)]) (st' := [.int a1, .ref 59]) (h' := h1) (k_55 L1) rfl rfl ?_
    refine mX_to 3 (k' := 16) (ls' := [some (.ref 55), some (.int a1)]) (st' := [.ref 55, .int ((gI h1 55 7) <<< (5 &&& 31)), .int a1, .ref 59]) (h' := h1) rfl ?_
    refine mX_ckv (v := .ref (gR h1 55 4)) (v' := .ref 59) (k' := 17) (ls' := [some (.ref 55), some (.int a1)]) (st' := [.int ((gI h1 55 7) <<< (5 &&& 31)), .int a1, .ref 59]) (h' := h1) (k_55 L1) (congrArg Value.ref (r_55_4 L1)) rfl ?_
    refine mX_to 1 (k' := 18) (ls' := [some (.ref 55), some (.int a1)]) (st' := [.int a1, .ref 59, .int ((gI h1 55 7) <<< (5 &&& 31)), .int a1, .ref 59]) (h' := h1) rfl ?_
    refine mX_ckw (v := .int (gI h1 59 (ix a1))) (v' := .int (gI h1 59 (ix a1))) (k' := 19) (ls' := [some (.ref 55), some (.int a1)]) (st' := [.int ((gI h1 55 7) <<< (5 &&& 31)), .int a1, .ref 59]) (h' := h1) (ckA1 (k_59 L1) (n_59 L1)) rfl rfl fun c5 => ?_
    refine mX_to 3 (k' := 22) (ls' := [some (.ref 55), some (.int a1)]) (st' := [.int (((gI h1 55 7) <<< (5 &&& 31)) ||| ((gI h1 59 (ix a1)) &&& 31)), .int a1, .ref 59]) (h' := h1) rfl ?_
    refine mX_cki (k' := 23) (ls' := [some (.ref 55), some (.int a1)]) (st' := []) (h' := (sI h1 59 (ix a1) (((gI h1 55 7) <<< (5 &&& 31)) ||| ((gI h1 59 (ix a1)) &&& 31)))) (ckA0 (k_59 L1) (n_59 L1)) rfl fun c3 => ?_
    refine lt_geq2 (X := fun h4 : MH => mX (mE mtab d) KX4_aim 23 [some (.ref 55), some (.int a1)] [] h4) (a := (sI h1 59 (ix a1) (((gI h1 55 7) <<< (5 &&& 31)) ||| ((gI h1 59 (ix a1)) &&& 31)))) (a' := (sI h1 59 (ix a1) (((gI h1 55 7) <<< (5 &&& 31)) ||| ((gI h1 59 (ix a1)) &&& 31)))) rfl fun h4 eh4 => ?_
    have L4 : lay h4 := eh4 ▸ layI L1 (by decide)
    exact mX_ret rfl
theorem S_X4_choice {h : MH} (L : lay h) (d : Nat) (a1 : Int32) : F_X4_choice (d + 1) a1 h = cI (F_X4_either d a1 h) (fun x2 h1 => (if x2 = 0 then some (.int 0, h1) else cI (F_X4_expect d 318 h1) (fun x4 h3 => (if x4 = 0 then some (.int 0, h3) else cI (F_X4_emit d 3 0 h3) (fun x6 h5 => cI (F_X4_sum d a1 h5) (fun x8 h7 => (if x8 = 0 then some (.int 0, h7) else cI (F_X4_expect d 319 h7) (fun x10 h9 => (if x10 = 0 then some (.int 0, h9) else cI (F_X4_emit d 2 0 h9) (fun x12 h11 => cV (F_X4_aim d x6 h11) (fun h13 => cI (F_X4_sum d a1 h13) (fun x15 h14 => (if x15 = 0 then some (.int 0, h14) else cI (F_X4_expect d 320 h14) (fun x17 h16 => (if x17 = 0 then some (.int 0, h16) else cV (F_X4_aim d x12 h16) (fun h18 => some (.int 1, h18))))))))))))))))) := by
  refine mE_eq (q := (yX4_choice, cX4_choice, 4, (some .boolean), KX4_choice)) (C := KX4_choice) (ls := [some (.ref 55), some (.int a1), none, none]) rfl rfl rfl rfl ?_
  refine mX_to 2 (k' := 2) (ls' := [some (.ref 55), some (.int a1), none, none]) (st' := [.int a1, .ref 55]) (h' := h) rfl ?_
  refine mX_ckct (m := mcl (mE mtab d 79 [.ref 55, .int a1] h) 1 3 [some (.ref 55), some (.int a1), none, none] []) (k_55 L) rfl ?_
  refine mk_cIe (o := F_X4_either d a1 h) ?_
  intro x2 h1 eh1
  have L1 : lay h1 := lay_call d 79 [.ref 55, .int a1] h _ h1 rfl eh1 L
  refine mX_br (t := 8) (f := 4) (ls' := [some (.ref 55), some (.int a1), none, none]) (st' := []) (h' := h1) rfl ?_ ?_
  · refine mX_to 1 (k' := 9) (ls' := [some (.ref 55), some (.int a1), none, none]) (st' := [.int 0]) (h' := h1) rfl ?_
    exact mX_retb (by decide) rfl
  · refine mX_to 2 (k' := 6) (ls' := [some (.ref 55), some (.int a1), none, none]) (st' := [.int 318, .ref 55]) (h' := h1) rfl ?_
    refine mX_ckct (m := mcl (mE mtab d 74 [.ref 55, .int 318] h1) 1 7 [some (.ref 55), some (.int a1), none, none] []) (k_55 L1) rfl ?_
    refine mk_cIe (o := F_X4_expect d 318 h1) ?_
    intro x4 h3 eh3
    have L3 : lay h3 := lay_call d 74 [.ref 55, .int 318] h1 _ h3 rfl eh3 L1
    refine mX_br (t := 8) (f := 10) (ls' := [some (.ref 55), some (.int a1), none, none]) (st' := []) (h' := h3) rfl ?_ ?_
    · refine mX_to 1 (k' := 9) (ls' := [some (.ref 55), some (.int a1), none, none]) (st' := [.int 0]) (h' := h3) rfl ?_
      exact mX_retb (by decide) rfl
    · refine mX_to 3 (k' := 13) (ls' := [some (.ref 55), some (.int a1), none, none]) (st' := [.int 0, .int 3, .ref 55]) (h' := h3) rfl ?_
      refine mX_ckct (m := mcl (mE mtab d 71 [.ref 55, .int 3, .int 0] h3) 1 14 [some (.ref 55), some (.int a1), none, none] []) (k_55 L3) rfl ?_
      refine mk_cIe (o := F_X4_emit d 3 0 h3) ?_
      intro x6 h5 eh5
      have L5 : lay h5 := lay_call d 71 [.ref 55, .int 3, .int 0] h3 _ h5 rfl eh5 L3
      refine mX_to 3 (k' := 17) (ls' := [some (.ref 55), some (.int a1), some (.int x6), none]) (st' := [.int a1, .ref 55]) (h' := h5) rfl ?_
      refine mX_ckct (m := mcl (mE mtab d 84 [.ref 55, .int a1] h5) 1 18 [some (.ref 55), some (.int a1), some (.int x6), none] []) (k_55 L5) rfl ?_
      refine mk_cIe (o := F_X4_sum d a1 h5) ?_
      intro x8 h7 eh7
      have L7 : lay h7 := lay_call d 84 [.ref 55, .int a1] h5 _ h7 rfl eh7 L5
      refine mX_br (t := 23) (f := 19) (ls' := [some (.ref 55), some (.int a1), some (.int x6), none]) (st' := []) (h' := h7) rfl ?_ ?_
      · refine mX_to 1 (k' := 24) (ls' := [some (.ref 55), some (.int a1), some (.int x6), none]) (st' := [.int 0]) (h' := h7) rfl ?_
        exact mX_retb (by decide) rfl
      · refine mX_to 2 (k' := 21) (ls' := [some (.ref 55), some (.int a1), some (.int x6), none]) (st' := [.int 319, .ref 55]) (h' := h7) rfl ?_
        refine mX_ckct (m := mcl (mE mtab d 74 [.ref 55, .int 319] h7) 1 22 [some (.ref 55), some (.int a1), some (.int x6), none] []) (k_55 L7) rfl ?_
        refine mk_cIe (o := F_X4_expect d 319 h7) ?_
        intro x10 h9 eh9
        have L9 : lay h9 := lay_call d 74 [.ref 55, .int 319] h7 _ h9 rfl eh9 L7
        refine mX_br (t := 23) (f := 25) (ls' := [some (.ref 55), some (.int a1), some (.int x6), none]) (st' := []) (h' := h9) rfl ?_ ?_
        · refine mX_to 1 (k' := 24) (ls' := [some (.ref 55), some (.int a1), some (.int x6), none]) (st' := [.int 0]) (h' := h9) rfl ?_
          exact mX_retb (by decide) rfl
        · refine mX_to 3 (k' := 28) (ls' := [some (.ref 55), some (.int a1), some (.int x6), none]) (st' := [.int 0, .int 2, .ref 55]) (h' := h9) rfl ?_
          refine mX_ckct (m := mcl (mE mtab d 71 [.ref 55, .int 2, .int 0] h9) 1 29 [some (.ref 55), some (.int a1), some (.int x6), none] []) (k_55 L9) rfl ?_
          refine mk_cIe (o := F_X4_emit d 2 0 h9) ?_
          intro x12 h11 eh11
          have L11 : lay h11 := lay_call d 71 [.ref 55, .int 2, .int 0] h9 _ h11 rfl eh11 L9
          refine mX_to 3 (k' := 32) (ls' := [some (.ref 55), some (.int a1), some (.int x6), some (.int x12)]) (st' := [.int x6, .ref 55]) (h' := h11) rfl ?_
          refine mX_ckct (m := mcl (mE mtab d 80 [.ref 55, .int x6] h11) 0 33 [some (.ref 55), some (.int a1), some (.int x6), some (.int x12)] []) (k_55 L11) rfl ?_
          refine mk_cVe (o := F_X4_aim d x6 h11) ?_
          intro wh13 h13 eh13
          have L13 : lay h13 := lay_call d 80 [.ref 55, .int x6] h11 _ h13 rfl eh13 L11
          refine mX_to 2 (k' := 35) (ls' := [some (.ref 55), some (.int a1), some (.int x6), some (.int x12)]) (st' := [.int a1, .ref 55]) (h' := h13) rfl ?_
          refine mX_ckct (m := mcl (mE mtab d 84 [.ref 55, .int a1] h13) 1 36 [some (.ref 55), some (.int a1), some (.int x6), some (.int x12)] []) (k_55 L13) rfl ?_
          refine mk_cIe (o := F_X4_sum d a1 h13) ?_
          intro x15 h14 eh14
          have L14 : lay h14 := lay_call d 84 [.ref 55, .int a1] h13 _ h14 rfl eh14 L13
          refine mX_br (t := 41) (f := 37) (ls' := [some (.ref 55), some (.int a1), some (.int x6), some (.int x12)]) (st' := []) (h' := h14) rfl ?_ ?_
          · refine mX_to 1 (k' := 42) (ls' := [some (.ref 55), some (.int a1), some (.int x6), some (.int x12)]) (st' := [.int 0]) (h' := h14) rfl ?_
            exact mX_retb (by decide) rfl
          · refine mX_to 2 (k' := 39) (ls' := [some (.ref 55), some (.int a1), some (.int x6), some (.int x12)]) (st' := [.int 320, .ref 55]) (h' := h14) rfl ?_
            refine mX_ckct (m := mcl (mE mtab d 74 [.ref 55, .int 320] h14) 1 40 [some (.ref 55), some (.int a1), some (.int x6), some (.int x12)] []) (k_55 L14) rfl ?_
            refine mk_cIe (o := F_X4_expect d 320 h14) ?_
            intro x17 h16 eh16
            have L16 : lay h16 := lay_call d 74 [.ref 55, .int 320] h14 _ h16 rfl eh16 L14
            refine mX_br (t := 41) (f := 43) (ls' := [some (.ref 55), some (.int a1), some (.int x6), some (.int x12)]) (st' := []) (h' := h16) rfl ?_ ?_
            · refine mX_to 1 (k' := 42) (ls' := [some (.ref 55), some (.int a1), some (.int x6), some (.int x12)]) (st' := [.int 0]) (h' := h16) rfl ?_
              exact mX_retb (by decide) rfl
            · refine mX_to 2 (k' := 45) (ls' := [some (.ref 55), some (.int a1), some (.int x6), some (.int x12)]) (st' := [.int x12, .ref 55]) (h' := h16) rfl ?_
              refine mX_ckct (m := mcl (mE mtab d 80 [.ref 55, .int x12] h16) 0 46 [some (.ref 55), some (.int a1), some (.int x6), some (.int x12)] []) (k_55 L16) rfl ?_
              refine mk_cVe (o := F_X4_aim d x12 h16) ?_
              intro wh18 h18 eh18
              have L18 : lay h18 := lay_call d 80 [.ref 55, .int x12] h16 _ h18 rfl eh18 L16
              refine mX_to 1 (k' := 47) (ls' := [some (.ref 55), some (.int a1), some (.int x6), some (.int x12)]) (st' := [.int 1]) (h' := h18) rfl ?_
              exact mX_retb (by decide) rfl
theorem S_X4_one_37 {h : MH} (L : lay h) (d : Nat) (l1 : Int32) (l2 : Int32) : G_X4_one_37 d l1 l2 h = (if l1 < 8 then cV (F_X4_advance d h) (fun h11 => (if l2 = 40 then cI (F_X4_sum d (l1 + 1) h11) (fun x13 h12 => (if x13 = 0 then some (.int 0, h12) else cI (F_X4_expect d 41 h12) (fun x15 h14 => (if x15 = 0 then some (.int 0, h14) else some (.int 1, h14))))) else (if l2 = 317 then cI (F_X4_choice d (l1 + 1) h11) (fun x17 h16 => ck (mrt 1 x17) (some (.int x17, h16))) else cI (F_X4_one d (l1 + 1) h11) (fun x19 h18 => (if l2 = 45 then G_X4_one_90 d l1 l2 x19 4 h18 else (if l2 = 315 then G_X4_one_90 d l1 l2 x19 5 h18 else G_X4_one_90 d l1 l2 x19 6 h18)))))) else cI (F_X4_refuse d 3 h) (fun x21 h20 => ck (mrt 1 x21) (some (.int x21, h20)))) := by
  refine mX_to 2 (k' := 39) (ls' := [some (.ref 55), some (.int l1), some (.int l2), none]) (st' := [.int 8, .int l1]) (h' := h) rfl ?_
  refine mX_br (t := 44) (f := 40) (ls' := [some (.ref 55), some (.int l1), some (.int l2), none]) (st' := []) (h' := h) rfl ?_ ?_
  · refine mX_to 1 (k' := 45) (ls' := [some (.ref 55), some (.int l1), some (.int l2), none]) (st' := [.ref 55]) (h' := h) rfl ?_
    refine mX_ckct (m := mcl (mE mtab d 70 [.ref 55] h) 0 46 [some (.ref 55), some (.int l1), some (.int l2), none] []) (k_55 L) rfl ?_
    refine mk_cVe (o := F_X4_advance d h) ?_
    intro wh11 h11 eh11
    have L11 : lay h11 := lay_call d 70 [.ref 55] h _ h11 rfl eh11 L
    refine mX_to 2 (k' := 48) (ls' := [some (.ref 55), some (.int l1), some (.int l2), none]) (st' := [.int 40, .int l2]) (h' := h11) rfl ?_
    refine mX_br (t := 49) (f := 63) (ls' := [some (.ref 55), some (.int l1), some (.int l2), none]) (st' := []) (h' := h11) rfl ?_ ?_
    · refine mX_to 4 (k' := 53) (ls' := [some (.ref 55), some (.int l1), some (.int l2), none]) (st' := [.int (l1 + 1), .ref 55]) (h' := h11) rfl ?_
      refine mX_ckct (m := mcl (mE mtab d 84 [.ref 55, .int (l1 + 1)] h11) 1 54 [some (.ref 55), some (.int l1), some (.int l2), none] []) (k_55 L11) rfl ?_
      refine mk_cIe (o := F_X4_sum d (l1 + 1) h11) ?_
      intro x13 h12 eh12
      have L12 : lay h12 := lay_call d 84 [.ref 55, .int (l1 + 1)] h11 _ h12 rfl eh12 L11
      refine mX_br (t := 61) (f := 55) (ls' := [some (.ref 55), some (.int l1), some (.int l2), none]) (st' := []) (h' := h12) rfl ?_ ?_
      · refine mX_to 1 (k' := 62) (ls' := [some (.ref 55), some (.int l1), some (.int l2), none]) (st' := [.int 0]) (h' := h12) rfl ?_
        exact mX_retb (by decide) rfl
      · refine mX_to 2 (k' := 57) (ls' := [some (.ref 55), some (.int l1), some (.int l2), none]) (st' := [.int 41, .ref 55]) (h' := h12) rfl ?_
        refine mX_ckct (m := mcl (mE mtab d 74 [.ref 55, .int 41] h12) 1 58 [some (.ref 55), some (.int l1), some (.int l2), none] []) (k_55 L12) rfl ?_
        refine mk_cIe (o := F_X4_expect d 41 h12) ?_
        intro x15 h14 eh14
        have L14 : lay h14 := lay_call d 74 [.ref 55, .int 41] h12 _ h14 rfl eh14 L12
        refine mX_br (t := 61) (f := 59) (ls' := [some (.ref 55), some (.int l1), some (.int l2), none]) (st' := []) (h' := h14) rfl ?_ ?_
        · refine mX_to 1 (k' := 62) (ls' := [some (.ref 55), some (.int l1), some (.int l2), none]) (st' := [.int 0]) (h' := h14) rfl ?_
          exact mX_retb (by decide) rfl
        · refine mX_to 2 (k' := 62) (ls' := [some (.ref 55), some (.int l1), some (.int l2), none]) (st' := [.int 1]) (h' := h14) rfl ?_
          exact mX_retb (by decide) rfl
    · refine mX_to 2 (k' := 65) (ls' := [some (.ref 55), some (.int l1), some (.int l2), none]) (st' := [.int 317, .int l2]) (h' := h11) rfl ?_
      refine mX_br (t := 66) (f := 72) (ls' := [some (.ref 55), some (.int l1), some (.int l2), none]) (st' := []) (h' := h11) rfl ?_ ?_
      · refine mX_to 4 (k' := 70) (ls' := [some (.ref 55), some (.int l1), some (.int l2), none]) (st' := [.int (l1 + 1), .ref 55]) (h' := h11) rfl ?_
        refine mX_ckct (m := mcl (mE mtab d 81 [.ref 55, .int (l1 + 1)] h11) 1 71 [some (.ref 55), some (.int l1), some (.int l2), none] []) (k_55 L11) rfl ?_
        refine mk_cIe (o := F_X4_choice d (l1 + 1) h11) ?_
        intro x17 h16 eh16
        have L16 : lay h16 := lay_call d 81 [.ref 55, .int (l1 + 1)] h11 _ h16 rfl eh16 L11
        exact mX_retc rfl
      · refine mX_to 4 (k' := 76) (ls' := [some (.ref 55), some (.int l1), some (.int l2), none]) (st' := [.int (l1 + 1), .ref 55]) (h' := h11) rfl ?_
        refine mX_ckct (m := mcl (mE mtab d 82 [.ref 55, .int (l1 + 1)] h11) 1 77 [some (.ref 55), some (.int l1), some (.int l2), none] []) (k_55 L11) rfl ?_
        refine mk_cIe (o := F_X4_one d (l1 + 1) h11) ?_
        intro x19 h18 eh18
        have L18 : lay h18 := lay_call d 82 [.ref 55, .int (l1 + 1)] h11 _ h18 rfl eh18 L11
        refine mX_to 4 (k' := 81) (ls' := [some (.ref 55), some (.int l1), some (.int l2), some (.int x19)]) (st' := [.int 45, .int l2, .ref 55]) (h' := h18) rfl ?_
        refine mX_br (t := 82) (f := 84) (ls' := [some (.ref 55), some (.int l1), some (.int l2), some (.int x19)]) (st' := [.ref 55]) (h' := h18) rfl ?_ ?_
        · refine mX_to 2 (k' := 90) (ls' := [some (.ref 55), some (.int l1), some (.int l2), some (.int x19)]) (st' := [.int 4, .ref 55]) (h' := h18) rfl ?_
          rfl
        · refine mX_to 2 (k' := 86) (ls' := [some (.ref 55), some (.int l1), some (.int l2), some (.int x19)]) (st' := [.int 315, .int l2, .ref 55]) (h' := h18) rfl ?_
          refine mX_br (t := 87) (f := 89) (ls' := [some (.ref 55), some (.int l1), some (.int l2), some (.int x19)]) (st' := [.ref 55]) (h' := h18) rfl ?_ ?_
          · refine mX_to 2 (k' := 90) (ls' := [some (.ref 55), some (.int l1), some (.int l2), some (.int x19)]) (st' := [.int 5, .ref 55]) (h' := h18) rfl ?_
            rfl
          · refine mX_to 1 (k' := 90) (ls' := [some (.ref 55), some (.int l1), some (.int l2), some (.int x19)]) (st' := [.int 6, .ref 55]) (h' := h18) rfl ?_
            rfl
  · refine mX_to 2 (k' := 42) (ls' := [some (.ref 55), some (.int l1), some (.int l2), none]) (st' := [.int 3, .ref 55]) (h' := h) rfl ?_
    refine mX_ckct (m := mcl (mE mtab d 69 [.ref 55, .int 3] h) 1 43 [some (.ref 55), some (.int l1), some (.int l2), none] []) (k_55 L) rfl ?_
    refine mk_cIe (o := F_X4_refuse d 3 h) ?_
    intro x21 h20 eh20
    have L20 : lay h20 := lay_call d 69 [.ref 55, .int 3] h _ h20 rfl eh20 L
    exact mX_retc rfl
theorem S_X4_one_90 {h : MH} (L : lay h) (d : Nat) (l1 : Int32) (l2 : Int32) (l3 : Int32) (s0 : Int32) : G_X4_one_90 d l1 l2 l3 s0 h = cI (F_X4_emit d s0 0 h) (fun x23 h22 => ck (mrt 1 l3) (some (.int l3, h22))) := by
  refine mX_to 1 (k' := 91) (ls' := [some (.ref 55), some (.int l1), some (.int l2), some (.int l3)]) (st' := [.int 0, .int s0, .ref 55]) (h' := h) rfl ?_
  refine mX_ckct (m := mcl (mE mtab d 71 [.ref 55, .int s0, .int 0] h) 1 92 [some (.ref 55), some (.int l1), some (.int l2), some (.int l3)] []) (k_55 L) rfl ?_
  refine mk_cIe (o := F_X4_emit d s0 0 h) ?_
  intro x23 h22 eh22
  have L22 : lay h22 := lay_call d 71 [.ref 55, .int s0, .int 0] h _ h22 rfl eh22 L
  refine mX_to 2 (k' := 94) (ls' := [some (.ref 55), some (.int l1), some (.int l2), some (.int l3)]) (st' := [.int l3]) (h' := h22) rfl ?_
  exact mX_retc rfl
theorem S_X4_one {h : MH} (L : lay h) (d : Nat) (a1 : Int32) : F_X4_one (d + 1) a1 h = cI (F_X4_kind d h) (fun x2 h1 => (if x2 = 258 then cI (F_X4_numeral d h1) (fun x4 h3 => ck (mrt 1 x4) (some (.int x4, h3))) else cI (F_X10_within d x2 307 313 h1) (fun x6 h5 => (if x6 = 0 then (if x2 = 40 then G_X4_one_37 d a1 x2 h5 else (if x2 = 45 then G_X4_one_37 d a1 x2 h5 else (if x2 = 315 then G_X4_one_37 d a1 x2 h5 else (if x2 = 316 then G_X4_one_37 d a1 x2 h5 else (if x2 = 317 then G_X4_one_37 d a1 x2 h5 else cI (F_X4_refuse d 1 h5) (fun x8 h7 => ck (mrt 1 x8) (some (.int x8, h7)))))))) else cI (F_X4_name d x2 h5) (fun x10 h9 => ck (mrt 1 x10) (some (.int x10, h9))))))) := by
  refine mE_eq (q := (yX4_one, cX4_one, 4, (some .boolean), KX4_one)) (C := KX4_one) (ls := [some (.ref 55), some (.int a1), none, none]) rfl rfl rfl rfl ?_
  refine mX_to 1 (k' := 1) (ls' := [some (.ref 55), some (.int a1), none, none]) (st' := [.ref 55]) (h' := h) rfl ?_
  refine mX_ckct (m := mcl (mE mtab d 68 [.ref 55] h) 1 2 [some (.ref 55), some (.int a1), none, none] []) (k_55 L) rfl ?_
  refine mk_cIe (o := F_X4_kind d h) ?_
  intro x2 h1 eh1
  have L1 : lay h1 := lay_call d 68 [.ref 55] h _ h1 rfl eh1 L
  refine mX_to 3 (k' := 5) (ls' := [some (.ref 55), some (.int a1), some (.int x2), none]) (st' := [.int 258, .int x2]) (h' := h1) rfl ?_
  refine mX_br (t := 6) (f := 9) (ls' := [some (.ref 55), some (.int a1), some (.int x2), none]) (st' := []) (h' := h1) rfl ?_ ?_
  · refine mX_to 1 (k' := 7) (ls' := [some (.ref 55), some (.int a1), some (.int x2), none]) (st' := [.ref 55]) (h' := h1) rfl ?_
    refine mX_ckct (m := mcl (mE mtab d 72 [.ref 55] h1) 1 8 [some (.ref 55), some (.int a1), some (.int x2), none] []) (k_55 L1) rfl ?_
    refine mk_cIe (o := F_X4_numeral d h1) ?_
    intro x4 h3 eh3
    have L3 : lay h3 := lay_call d 72 [.ref 55] h1 _ h3 rfl eh3 L1
    exact mX_retc rfl
  · refine mX_to 3 (k' := 12) (ls' := [some (.ref 55), some (.int a1), some (.int x2), none]) (st' := [.int 313, .int 307, .int x2]) (h' := h1) rfl ?_
    refine mX_cIe (o := F_X10_within d x2 307 313 h1) (k' := 13) (ls' := [some (.ref 55), some (.int a1), some (.int x2), none]) (st' := []) rfl ?_
    intro x6 h5 eh5
    have L5 : lay h5 := lay_call d 11 [.int x2, .int 307, .int 313] h1 _ h5 rfl eh5 L1
    refine mX_br (t := 18) (f := 14) (ls' := [some (.ref 55), some (.int a1), some (.int x2), none]) (st' := []) (h' := h5) rfl ?_ ?_
    · refine mX_to 2 (k' := 20) (ls' := [some (.ref 55), some (.int a1), some (.int x2), none]) (st' := [.int 40, .int x2]) (h' := h5) rfl ?_
      refine mX_br (t := 37) (f := 21) (ls' := [some (.ref 55), some (.int a1), some (.int x2), none]) (st' := []) (h' := h5) rfl ?_ ?_
      · rfl
      · refine mX_to 2 (k' := 23) (ls' := [some (.ref 55), some (.int a1), some (.int x2), none]) (st' := [.int 45, .int x2]) (h' := h5) rfl ?_
        refine mX_br (t := 37) (f := 24) (ls' := [some (.ref 55), some (.int a1), some (.int x2), none]) (st' := []) (h' := h5) rfl ?_ ?_
        · rfl
        · refine mX_to 2 (k' := 26) (ls' := [some (.ref 55), some (.int a1), some (.int x2), none]) (st' := [.int 315, .int x2]) (h' := h5) rfl ?_
          refine mX_br (t := 37) (f := 27) (ls' := [some (.ref 55), some (.int a1), some (.int x2), none]) (st' := []) (h' := h5) rfl ?_ ?_
          · rfl
          · refine mX_to 2 (k' := 29) (ls' := [some (.ref 55), some (.int a1), some (.int x2), none]) (st' := [.int 316, .int x2]) (h' := h5) rfl ?_
            refine mX_br (t := 37) (f := 30) (ls' := [some (.ref 55), some (.int a1), some (.int x2), none]) (st' := []) (h' := h5) rfl ?_ ?_
            · rfl
            · refine mX_to 2 (k' := 32) (ls' := [some (.ref 55), some (.int a1), some (.int x2), none]) (st' := [.int 317, .int x2]) (h' := h5) rfl ?_
              refine mX_br (t := 37) (f := 33) (ls' := [some (.ref 55), some (.int a1), some (.int x2), none]) (st' := []) (h' := h5) rfl ?_ ?_
              · rfl
              · refine mX_to 2 (k' := 35) (ls' := [some (.ref 55), some (.int a1), some (.int x2), none]) (st' := [.int 1, .ref 55]) (h' := h5) rfl ?_
                refine mX_ckct (m := mcl (mE mtab d 69 [.ref 55, .int 1] h5) 1 36 [some (.ref 55), some (.int a1), some (.int x2), none] []) (k_55 L5) rfl ?_
                refine mk_cIe (o := F_X4_refuse d 1 h5) ?_
                intro x8 h7 eh7
                have L7 : lay h7 := lay_call d 69 [.ref 55, .int 1] h5 _ h7 rfl eh7 L5
                exact mX_retc rfl
    · refine mX_to 2 (k' := 16) (ls' := [some (.ref 55), some (.int a1), some (.int x2), none]) (st' := [.int x2, .ref 55]) (h' := h5) rfl ?_
      refine mX_ckct (m := mcl (mE mtab d 73 [.ref 55, .int x2] h5) 1 17 [some (.ref 55), some (.int a1), some (.int x2), none] []) (k_55 L5) rfl ?_
      refine mk_cIe (o := F_X4_name d x2 h5) ?_
      intro x10 h9 eh9
      have L9 : lay h9 := lay_call d 73 [.ref 55, .int x2] h5 _ h9 rfl eh9 L5
      exact mX_retc rfl
theorem S_X4_product_6 {h : MH} (L : lay h) (d : Nat) (l1 : Int32) (l2 : Int32) (l3 : Int32) (o4 : Option Value) : G_X4_product_6 d l1 l2 l3 o4 h = (if l3 < 300 then (if l2 = 0 then ck (mrt 1 l2) (some (.int l2, h)) else cI (F_X4_kind d h) (fun x4 h3 => (if x4 = 42 then G_X4_product_19 d l1 l2 l3 (o4) h3 else cI (F_X4_kind d h3) (fun x6 h5 => (if x6 = 47 then G_X4_product_19 d l1 l2 l3 (o4) h5 else ck (mrt 1 l2) (some (.int l2, h5))))))) else ck (mrt 1 l2) (some (.int l2, h))) := by
  refine mX_to 2 (k' := 8) (ls' := [some (.ref 55), some (.int l1), some (.int l2), some (.int l3), o4]) (st' := [.int 300, .int l3]) (h' := h) rfl ?_
  refine mX_br (t := 9) (f := 40) (ls' := [some (.ref 55), some (.int l1), some (.int l2), some (.int l3), o4]) (st' := []) (h' := h) rfl ?_ ?_
  · refine mX_to 1 (k' := 10) (ls' := [some (.ref 55), some (.int l1), some (.int l2), some (.int l3), o4]) (st' := [.int l2]) (h' := h) rfl ?_
    refine mX_br (t := 40) (f := 11) (ls' := [some (.ref 55), some (.int l1), some (.int l2), some (.int l3), o4]) (st' := []) (h' := h) rfl ?_ ?_
    · refine mX_to 1 (k' := 41) (ls' := [some (.ref 55), some (.int l1), some (.int l2), some (.int l3), o4]) (st' := [.int l2]) (h' := h) rfl ?_
      exact mX_retc rfl
    · refine mX_to 1 (k' := 12) (ls' := [some (.ref 55), some (.int l1), some (.int l2), some (.int l3), o4]) (st' := [.ref 55]) (h' := h) rfl ?_
      refine mX_ckct (m := mcl (mE mtab d 68 [.ref 55] h) 1 13 [some (.ref 55), some (.int l1), some (.int l2), some (.int l3), o4] []) (k_55 L) rfl ?_
      refine mk_cIe (o := F_X4_kind d h) ?_
      intro x4 h3 eh3
      have L3 : lay h3 := lay_call d 68 [.ref 55] h _ h3 rfl eh3 L
      refine mX_to 1 (k' := 14) (ls' := [some (.ref 55), some (.int l1), some (.int l2), some (.int l3), o4]) (st' := [.int 42, .int x4]) (h' := h3) rfl ?_
      refine mX_br (t := 19) (f := 15) (ls' := [some (.ref 55), some (.int l1), some (.int l2), some (.int l3), o4]) (st' := []) (h' := h3) rfl ?_ ?_
      · rfl
      · refine mX_to 1 (k' := 16) (ls' := [some (.ref 55), some (.int l1), some (.int l2), some (.int l3), o4]) (st' := [.ref 55]) (h' := h3) rfl ?_
        refine mX_ckct (m := mcl (mE mtab d 68 [.ref 55] h3) 1 17 [some (.ref 55), some (.int l1), some (.int l2), some (.int l3), o4] []) (k_55 L3) rfl ?_
        refine mk_cIe (o := F_X4_kind d h3) ?_
        intro x6 h5 eh5
        have L5 : lay h5 := lay_call d 68 [.ref 55] h3 _ h5 rfl eh5 L3
        refine mX_to 1 (k' := 18) (ls' := [some (.ref 55), some (.int l1), some (.int l2), some (.int l3), o4]) (st' := [.int 47, .int x6]) (h' := h5) rfl ?_
        refine mX_br (t := 19) (f := 40) (ls' := [some (.ref 55), some (.int l1), some (.int l2), some (.int l3), o4]) (st' := []) (h' := h5) rfl ?_ ?_
        · rfl
        · refine mX_to 1 (k' := 41) (ls' := [some (.ref 55), some (.int l1), some (.int l2), some (.int l3), o4]) (st' := [.int l2]) (h' := h5) rfl ?_
          exact mX_retc rfl
  · refine mX_to 1 (k' := 41) (ls' := [some (.ref 55), some (.int l1), some (.int l2), some (.int l3), o4]) (st' := [.int l2]) (h' := h) rfl ?_
    exact mX_retc rfl
theorem S_X4_product_19 {h : MH} (L : lay h) (d : Nat) (l1 : Int32) (l2 : Int32) (l3 : Int32) (o4 : Option Value) : G_X4_product_19 d l1 l2 l3 o4 h = cI (F_X4_kind d h) (fun x8 h7 => (if x8 = 42 then G_X4_product_26 d l1 l2 l3 (o4) 10 h7 else G_X4_product_26 d l1 l2 l3 (o4) 11 h7)) := by
  refine mX_to 1 (k' := 20) (ls' := [some (.ref 55), some (.int l1), some (.int l2), some (.int l3), o4]) (st' := [.ref 55]) (h' := h) rfl ?_
  refine mX_ckct (m := mcl (mE mtab d 68 [.ref 55] h) 1 21 [some (.ref 55), some (.int l1), some (.int l2), some (.int l3), o4] []) (k_55 L) rfl ?_
  refine mk_cIe (o := F_X4_kind d h) ?_
  intro x8 h7 eh7
  have L7 : lay h7 := lay_call d 68 [.ref 55] h _ h7 rfl eh7 L
  refine mX_to 1 (k' := 22) (ls' := [some (.ref 55), some (.int l1), some (.int l2), some (.int l3), o4]) (st' := [.int 42, .int x8]) (h' := h7) rfl ?_
  refine mX_br (t := 23) (f := 25) (ls' := [some (.ref 55), some (.int l1), some (.int l2), some (.int l3), o4]) (st' := []) (h' := h7) rfl ?_ ?_
  · refine mX_to 2 (k' := 26) (ls' := [some (.ref 55), some (.int l1), some (.int l2), some (.int l3), o4]) (st' := [.int 10]) (h' := h7) rfl ?_
    rfl
  · refine mX_to 1 (k' := 26) (ls' := [some (.ref 55), some (.int l1), some (.int l2), some (.int l3), o4]) (st' := [.int 11]) (h' := h7) rfl ?_
    rfl
theorem S_X4_product_26 {h : MH} (L : lay h) (d : Nat) (l1 : Int32) (l2 : Int32) (l3 : Int32) (o4 : Option Value) (s0 : Int32) : G_X4_product_26 d l1 l2 l3 o4 s0 h = cV (F_X4_advance d h) (fun h9 => cI (F_X4_one d l1 h9) (fun x11 h10 => cI (F_X4_emit d s0 0 h10) (fun x13 h12 => G_X4_product_6 d l1 x11 (l3 + 1) (some (.int s0)) h12))) := by
  refine mX_to 2 (k' := 28) (ls' := [some (.ref 55), some (.int l1), some (.int l2), some (.int l3), some (.int s0)]) (st' := [.ref 55]) (h' := h) rfl ?_
  refine mX_ckct (m := mcl (mE mtab d 70 [.ref 55] h) 0 29 [some (.ref 55), some (.int l1), some (.int l2), some (.int l3), some (.int s0)] []) (k_55 L) rfl ?_
  refine mk_cVe (o := F_X4_advance d h) ?_
  intro wh9 h9 eh9
  have L9 : lay h9 := lay_call d 70 [.ref 55] h _ h9 rfl eh9 L
  refine mX_to 2 (k' := 31) (ls' := [some (.ref 55), some (.int l1), some (.int l2), some (.int l3), some (.int s0)]) (st' := [.int l1, .ref 55]) (h' := h9) rfl ?_
  refine mX_ckct (m := mcl (mE mtab d 82 [.ref 55, .int l1] h9) 1 32 [some (.ref 55), some (.int l1), some (.int l2), some (.int l3), some (.int s0)] []) (k_55 L9) rfl ?_
  refine mk_cIe (o := F_X4_one d l1 h9) ?_
  intro x11 h10 eh10
  have L10 : lay h10 := lay_call d 82 [.ref 55, .int l1] h9 _ h10 rfl eh10 L9
  refine mX_to 4 (k' := 36) (ls' := [some (.ref 55), some (.int l1), some (.int x11), some (.int l3), some (.int s0)]) (st' := [.int 0, .int s0, .ref 55]) (h' := h10) rfl ?_
  refine mX_ckct (m := mcl (mE mtab d 71 [.ref 55, .int s0, .int 0] h10) 1 37 [some (.ref 55), some (.int l1), some (.int x11), some (.int l3), some (.int s0)] []) (k_55 L10) rfl ?_
  refine mk_cIe (o := F_X4_emit d s0 0 h10) ?_
  intro x13 h12 eh12
  have L12 : lay h12 := lay_call d 71 [.ref 55, .int s0, .int 0] h10 _ h12 rfl eh12 L10
  refine mX_to 3 (k' := 6) (ls' := [some (.ref 55), some (.int l1), some (.int x11), some (.int (l3 + 1)), some (.int s0)]) (st' := []) (h' := h12) rfl ?_
  rfl
theorem S_X4_product {h : MH} (L : lay h) (d : Nat) (a1 : Int32) : F_X4_product (d + 1) a1 h = cI (F_X4_one d a1 h) (fun x2 h1 => G_X4_product_6 d a1 x2 0 none h1) := by
  refine mE_eq (q := (yX4_product, cX4_product, 5, (some .boolean), KX4_product)) (C := KX4_product) (ls := [some (.ref 55), some (.int a1), none, none, none]) rfl rfl rfl rfl ?_
  refine mX_to 2 (k' := 2) (ls' := [some (.ref 55), some (.int a1), none, none, none]) (st' := [.int a1, .ref 55]) (h' := h) rfl ?_
  refine mX_ckct (m := mcl (mE mtab d 82 [.ref 55, .int a1] h) 1 3 [some (.ref 55), some (.int a1), none, none, none] []) (k_55 L) rfl ?_
  refine mk_cIe (o := F_X4_one d a1 h) ?_
  intro x2 h1 eh1
  have L1 : lay h1 := lay_call d 82 [.ref 55, .int a1] h _ h1 rfl eh1 L
  refine mX_to 3 (k' := 6) (ls' := [some (.ref 55), some (.int a1), some (.int x2), some (.int 0), none]) (st' := []) (h' := h1) rfl ?_
  rfl
theorem S_X4_sum_6 {h : MH} (L : lay h) (d : Nat) (l1 : Int32) (l2 : Int32) (l3 : Int32) (o4 : Option Value) : G_X4_sum_6 d l1 l2 l3 o4 h = (if l3 < 300 then (if l2 = 0 then ck (mrt 1 l2) (some (.int l2, h)) else cI (F_X4_kind d h) (fun x4 h3 => (if x4 = 43 then G_X4_sum_19 d l1 l2 l3 (o4) h3 else cI (F_X4_kind d h3) (fun x6 h5 => (if x6 = 45 then G_X4_sum_19 d l1 l2 l3 (o4) h5 else ck (mrt 1 l2) (some (.int l2, h5))))))) else ck (mrt 1 l2) (some (.int l2, h))) := by
  refine mX_to 2 (k' := 8) (ls' := [some (.ref 55), some (.int l1), some (.int l2), some (.int l3), o4]) (st' := [.int 300, .int l3]) (h' := h) rfl ?_
  refine mX_br (t := 9) (f := 40) (ls' := [some (.ref 55), some (.int l1), some (.int l2), some (.int l3), o4]) (st' := []) (h' := h) rfl ?_ ?_
  · refine mX_to 1 (k' := 10) (ls' := [some (.ref 55), some (.int l1), some (.int l2), some (.int l3), o4]) (st' := [.int l2]) (h' := h) rfl ?_
    refine mX_br (t := 40) (f := 11) (ls' := [some (.ref 55), some (.int l1), some (.int l2), some (.int l3), o4]) (st' := []) (h' := h) rfl ?_ ?_
    · refine mX_to 1 (k' := 41) (ls' := [some (.ref 55), some (.int l1), some (.int l2), some (.int l3), o4]) (st' := [.int l2]) (h' := h) rfl ?_
      exact mX_retc rfl
    · refine mX_to 1 (k' := 12) (ls' := [some (.ref 55), some (.int l1), some (.int l2), some (.int l3), o4]) (st' := [.ref 55]) (h' := h) rfl ?_
      refine mX_ckct (m := mcl (mE mtab d 68 [.ref 55] h) 1 13 [some (.ref 55), some (.int l1), some (.int l2), some (.int l3), o4] []) (k_55 L) rfl ?_
      refine mk_cIe (o := F_X4_kind d h) ?_
      intro x4 h3 eh3
      have L3 : lay h3 := lay_call d 68 [.ref 55] h _ h3 rfl eh3 L
      refine mX_to 1 (k' := 14) (ls' := [some (.ref 55), some (.int l1), some (.int l2), some (.int l3), o4]) (st' := [.int 43, .int x4]) (h' := h3) rfl ?_
      refine mX_br (t := 19) (f := 15) (ls' := [some (.ref 55), some (.int l1), some (.int l2), some (.int l3), o4]) (st' := []) (h' := h3) rfl ?_ ?_
      · rfl
      · refine mX_to 1 (k' := 16) (ls' := [some (.ref 55), some (.int l1), some (.int l2), some (.int l3), o4]) (st' := [.ref 55]) (h' := h3) rfl ?_
        refine mX_ckct (m := mcl (mE mtab d 68 [.ref 55] h3) 1 17 [some (.ref 55), some (.int l1), some (.int l2), some (.int l3), o4] []) (k_55 L3) rfl ?_
        refine mk_cIe (o := F_X4_kind d h3) ?_
        intro x6 h5 eh5
        have L5 : lay h5 := lay_call d 68 [.ref 55] h3 _ h5 rfl eh5 L3
        refine mX_to 1 (k' := 18) (ls' := [some (.ref 55), some (.int l1), some (.int l2), some (.int l3), o4]) (st' := [.int 45, .int x6]) (h' := h5) rfl ?_
        refine mX_br (t := 19) (f := 40) (ls' := [some (.ref 55), some (.int l1), some (.int l2), some (.int l3), o4]) (st' := []) (h' := h5) rfl ?_ ?_
        · rfl
        · refine mX_to 1 (k' := 41) (ls' := [some (.ref 55), some (.int l1), some (.int l2), some (.int l3), o4]) (st' := [.int l2]) (h' := h5) rfl ?_
          exact mX_retc rfl
  · refine mX_to 1 (k' := 41) (ls' := [some (.ref 55), some (.int l1), some (.int l2), some (.int l3), o4]) (st' := [.int l2]) (h' := h) rfl ?_
    exact mX_retc rfl
theorem S_X4_sum_19 {h : MH} (L : lay h) (d : Nat) (l1 : Int32) (l2 : Int32) (l3 : Int32) (o4 : Option Value) : G_X4_sum_19 d l1 l2 l3 o4 h = cI (F_X4_kind d h) (fun x8 h7 => (if x8 = 43 then G_X4_sum_26 d l1 l2 l3 (o4) 8 h7 else G_X4_sum_26 d l1 l2 l3 (o4) 9 h7)) := by
  refine mX_to 1 (k' := 20) (ls' := [some (.ref 55), some (.int l1), some (.int l2), some (.int l3), o4]) (st' := [.ref 55]) (h' := h) rfl ?_
  refine mX_ckct (m := mcl (mE mtab d 68 [.ref 55] h) 1 21 [some (.ref 55), some (.int l1), some (.int l2), some (.int l3), o4] []) (k_55 L) rfl ?_
  refine mk_cIe (o := F_X4_kind d h) ?_
  intro x8 h7 eh7
  have L7 : lay h7 := lay_call d 68 [.ref 55] h _ h7 rfl eh7 L
  refine mX_to 1 (k' := 22) (ls' := [some (.ref 55), some (.int l1), some (.int l2), some (.int l3), o4]) (st' := [.int 43, .int x8]) (h' := h7) rfl ?_
  refine mX_br (t := 23) (f := 25) (ls' := [some (.ref 55), some (.int l1), some (.int l2), some (.int l3), o4]) (st' := []) (h' := h7) rfl ?_ ?_
  · refine mX_to 2 (k' := 26) (ls' := [some (.ref 55), some (.int l1), some (.int l2), some (.int l3), o4]) (st' := [.int 8]) (h' := h7) rfl ?_
    rfl
  · refine mX_to 1 (k' := 26) (ls' := [some (.ref 55), some (.int l1), some (.int l2), some (.int l3), o4]) (st' := [.int 9]) (h' := h7) rfl ?_
    rfl
theorem S_X4_sum_26 {h : MH} (L : lay h) (d : Nat) (l1 : Int32) (l2 : Int32) (l3 : Int32) (o4 : Option Value) (s0 : Int32) : G_X4_sum_26 d l1 l2 l3 o4 s0 h = cV (F_X4_advance d h) (fun h9 => cI (F_X4_product d l1 h9) (fun x11 h10 => cI (F_X4_emit d s0 0 h10) (fun x13 h12 => G_X4_sum_6 d l1 x11 (l3 + 1) (some (.int s0)) h12))) := by
  refine mX_to 2 (k' := 28) (ls' := [some (.ref 55), some (.int l1), some (.int l2), some (.int l3), some (.int s0)]) (st' := [.ref 55]) (h' := h) rfl ?_
  refine mX_ckct (m := mcl (mE mtab d 70 [.ref 55] h) 0 29 [some (.ref 55), some (.int l1), some (.int l2), some (.int l3), some (.int s0)] []) (k_55 L) rfl ?_
  refine mk_cVe (o := F_X4_advance d h) ?_
  intro wh9 h9 eh9
  have L9 : lay h9 := lay_call d 70 [.ref 55] h _ h9 rfl eh9 L
  refine mX_to 2 (k' := 31) (ls' := [some (.ref 55), some (.int l1), some (.int l2), some (.int l3), some (.int s0)]) (st' := [.int l1, .ref 55]) (h' := h9) rfl ?_
  refine mX_ckct (m := mcl (mE mtab d 83 [.ref 55, .int l1] h9) 1 32 [some (.ref 55), some (.int l1), some (.int l2), some (.int l3), some (.int s0)] []) (k_55 L9) rfl ?_
  refine mk_cIe (o := F_X4_product d l1 h9) ?_
  intro x11 h10 eh10
  have L10 : lay h10 := lay_call d 83 [.ref 55, .int l1] h9 _ h10 rfl eh10 L9
  refine mX_to 4 (k' := 36) (ls' := [some (.ref 55), some (.int l1), some (.int x11), some (.int l3), some (.int s0)]) (st' := [.int 0, .int s0, .ref 55]) (h' := h10) rfl ?_
  refine mX_ckct (m := mcl (mE mtab d 71 [.ref 55, .int s0, .int 0] h10) 1 37 [some (.ref 55), some (.int l1), some (.int x11), some (.int l3), some (.int s0)] []) (k_55 L10) rfl ?_
  refine mk_cIe (o := F_X4_emit d s0 0 h10) ?_
  intro x13 h12 eh12
  have L12 : lay h12 := lay_call d 71 [.ref 55, .int s0, .int 0] h10 _ h12 rfl eh12 L10
  refine mX_to 3 (k' := 6) (ls' := [some (.ref 55), some (.int l1), some (.int x11), some (.int (l3 + 1)), some (.int s0)]) (st' := []) (h' := h12) rfl ?_
  rfl
theorem S_X4_sum {h : MH} (L : lay h) (d : Nat) (a1 : Int32) : F_X4_sum (d + 1) a1 h = cI (F_X4_product d a1 h) (fun x2 h1 => G_X4_sum_6 d a1 x2 0 none h1) := by
  refine mE_eq (q := (yX4_sum, cX4_sum, 5, (some .boolean), KX4_sum)) (C := KX4_sum) (ls := [some (.ref 55), some (.int a1), none, none, none]) rfl rfl rfl rfl ?_
  refine mX_to 2 (k' := 2) (ls' := [some (.ref 55), some (.int a1), none, none, none]) (st' := [.int a1, .ref 55]) (h' := h) rfl ?_
  refine mX_ckct (m := mcl (mE mtab d 83 [.ref 55, .int a1] h) 1 3 [some (.ref 55), some (.int a1), none, none, none] []) (k_55 L) rfl ?_
  refine mk_cIe (o := F_X4_product d a1 h) ?_
  intro x2 h1 eh1
  have L1 : lay h1 := lay_call d 83 [.ref 55, .int a1] h _ h1 rfl eh1 L
  refine mX_to 3 (k' := 6) (ls' := [some (.ref 55), some (.int a1), some (.int x2), some (.int 0), none]) (st' := []) (h' := h1) rfl ?_
  rfl
theorem S_X4_number {h : MH} (L : lay h) (d : Nat) (a1 : Nat) (a2 : Int32) (a3 : Int32) : F_X4_number (d + 1) a1 a2 a3 h = cI (F_X4_kind d h) (fun x2 h1 => (if x2 = 258 then ck (ib (gI h1 55 5) 301) (cI (F_X10_within d (gI h1 54 (ix (gI h1 55 5))) a2 a3 h1) (fun x4 h3 => (if x4 = 0 then cI (F_X4_refuse d 2 h3) (fun x6 h5 => ck (mrt 1 x6) (some (.int x6, h5))) else ck (ib (gI h3 55 5) 301) (ck (kd h3 a1 = 20 ∧ ib (gI h3 55 6) (ln h3 a1)) (lt_ (sI h3 a1 (ix (gI h3 55 6)) (gI h3 54 (ix (gI h3 55 5)))) fun h8 => cV (F_X4_advance d h8) (fun h9 => some (.int 1, h9))))))) else cI (F_X4_refuse d 1 h1) (fun x13 h12 => ck (mrt 1 x13) (some (.int x13, h12))))) := by
  refine mE_eq (q := (yX4_number, cX4_number, 4, (some .boolean), KX4_number)) (C := KX4_number) (ls := [some (.ref 55), some (.ref a1), some (.int a2), some (.int a3)]) rfl rfl rfl rfl ?_
  refine mX_to 1 (k' := 1) (ls' := [some (.ref 55), some (.ref a1), some (.int a2), some (.int a3)]) (st' := [.ref 55]) (h' := h) rfl ?_
  refine mX_ckct (m := mcl (mE mtab d 68 [.ref 55] h) 1 2 [some (.ref 55), some (.ref a1), some (.int a2), some (.int a3)] []) (k_55 L) rfl ?_
  refine mk_cIe (o := F_X4_kind d h) ?_
  intro x2 h1 eh1
  have L1 : lay h1 := lay_call d 68 [.ref 55] h _ h1 rfl eh1 L
  refine mX_to 1 (k' := 3) (ls' := [some (.ref 55), some (.ref a1), some (.int a2), some (.int a3)]) (st' := [.int 258, .int x2]) (h' := h1) rfl ?_
  refine mX_br (t := 8) (f := 4) (ls' := [some (.ref 55), some (.ref a1), some (.int a2), some (.int a3)]) (st' := []) (h' := h1) rfl ?_ ?_
  · refine mX_to 1 (k' := 9) (ls' := [some (.ref 55), some (.ref a1), some (.int a2), some (.int a3)]) (st' := [.ref 55]) (h' := h1) rfl ?_
    refine mX_ckv (v := .ref (gR h1 55 0)) (v' := .ref 50) (k' := 10) (ls' := [some (.ref 55), some (.ref a1), some (.int a2), some (.int a3)]) (st' := []) (h' := h1) (k_55 L1) (congrArg Value.ref (r_55_0 L1)) rfl ?_
    refine mX_ckv (v := .ref (gR h1 50 4)) (v' := .ref 54) (k' := 11) (ls' := [some (.ref 55), some (.ref a1), some (.int a2), some (.int a3)]) (st' := []) (h' := h1) (k_50 L1) (congrArg Value.ref (r_50_4 L1)) rfl ?_
    refine mX_to 1 (k' := 12) (ls' := [some (.ref 55), some (.ref a1), some (.int a2), some (.int a3)]) (st' := [.ref 55, .ref 54]) (h' := h1) rfl ?_
    refine mX_ckv (v := .int (gI h1 55 5)) (v' := .int (gI h1 55 5)) (k' := 13) (ls' := [some (.ref 55), some (.ref a1), some (.int a2), some (.int a3)]) (st' := [.ref 54]) (h' := h1) (k_55 L1) rfl rfl ?_
    refine mX_ckw (v := .int (gI h1 54 (ix (gI h1 55 5)))) (v' := .int (gI h1 54 (ix (gI h1 55 5)))) (k' := 14) (ls' := [some (.ref 55), some (.ref a1), some (.int a2), some (.int a3)]) (st' := []) (h' := h1) (ckA1 (k_54 L1) (n_54 L1)) rfl rfl fun c11 => ?_
    refine mX_to 2 (k' := 16) (ls' := [some (.ref 55), some (.ref a1), some (.int a2), some (.int a3)]) (st' := [.int a3, .int a2, .int (gI h1 54 (ix (gI h1 55 5)))]) (h' := h1) rfl ?_
    refine mX_cIe (o := F_X10_within d (gI h1 54 (ix (gI h1 55 5))) a2 a3 h1) (k' := 17) (ls' := [some (.ref 55), some (.ref a1), some (.int a2), some (.int a3)]) (st' := []) rfl ?_
    intro x4 h3 eh3
    have L3 : lay h3 := lay_call d 11 [.int (gI h1 54 (ix (gI h1 55 5))), .int a2, .int a3] h1 _ h3 rfl eh3 L1
    refine mX_br (t := 18) (f := 22) (ls' := [some (.ref 55), some (.ref a1), some (.int a2), some (.int a3)]) (st' := []) (h' := h3) rfl ?_ ?_
    · refine mX_to 2 (k' := 20) (ls' := [some (.ref 55), some (.ref a1), some (.int a2), some (.int a3)]) (st' := [.int 2, .ref 55]) (h' := h3) rfl ?_
      refine mX_ckct (m := mcl (mE mtab d 69 [.ref 55, .int 2] h3) 1 21 [some (.ref 55), some (.ref a1), some (.int a2), some (.int a3)] []) (k_55 L3) rfl ?_
      refine mk_cIe (o := F_X4_refuse d 2 h3) ?_
      intro x6 h5 eh5
      have L5 : lay h5 := lay_call d 69 [.ref 55, .int 2] h3 _ h5 rfl eh5 L3
      exact mX_retc rfl
    · refine mX_to 2 (k' := 24) (ls' := [some (.ref 55), some (.ref a1), some (.int a2), some (.int a3)]) (st' := [.ref 55, .ref a1]) (h' := h3) rfl ?_
      refine mX_ckv (v := .int (gI h3 55 6)) (v' := .int (gI h3 55 6)) (k' := 25) (ls' := [some (.ref 55), some (.ref a1), some (.int a2), some (.int a3)]) (st' := [.ref a1]) (h' := h3) (k_55 L3) rfl rfl ?_
      refine mX_to 1 (k' := 26) (ls' := [some (.ref 55), some (.ref a1), some (.int a2), some (.int a3)]) (st' := [.ref 55, .int (gI h3 55 6), .ref a1]) (h' := h3) rfl ?_
      refine mX_ckv (v := .ref (gR h3 55 0)) (v' := .ref 50) (k' := 27) (ls' := [some (.ref 55), some (.ref a1), some (.int a2), some (.int a3)]) (st' := [.int (gI h3 55 6), .ref a1]) (h' := h3) (k_55 L3) (congrArg Value.ref (r_55_0 L3)) rfl ?_
      refine mX_ckv (v := .ref (gR h3 50 4)) (v' := .ref 54) (k' := 28) (ls' := [some (.ref 55), some (.ref a1), some (.int a2), some (.int a3)]) (st' := [.int (gI h3 55 6), .ref a1]) (h' := h3) (k_50 L3) (congrArg Value.ref (r_50_4 L3)) rfl ?_
      refine mX_to 1 (k' := 29) (ls' := [some (.ref 55), some (.ref a1), some (.int a2), some (.int a3)]) (st' := [.ref 55, .ref 54, .int (gI h3 55 6), .ref a1]) (h' := h3) rfl ?_
      refine mX_ckv (v := .int (gI h3 55 5)) (v' := .int (gI h3 55 5)) (k' := 30) (ls' := [some (.ref 55), some (.ref a1), some (.int a2), some (.int a3)]) (st' := [.ref 54, .int (gI h3 55 6), .ref a1]) (h' := h3) (k_55 L3) rfl rfl ?_
      refine mX_ckw (v := .int (gI h3 54 (ix (gI h3 55 5)))) (v' := .int (gI h3 54 (ix (gI h3 55 5)))) (k' := 31) (ls' := [some (.ref 55), some (.ref a1), some (.int a2), some (.int a3)]) (st' := [.int (gI h3 55 6), .ref a1]) (h' := h3) (ckA1 (k_54 L3) (n_54 L3)) rfl rfl fun c10 => ?_
      refine mX_cki (k' := 32) (ls' := [some (.ref 55), some (.ref a1), some (.int a2), some (.int a3)]) (st' := []) (h' := (sI h3 a1 (ix (gI h3 55 6)) (gI h3 54 (ix (gI h3 55 5))))) Iff.rfl rfl fun c7 => ?_
      refine lt_geq2 (X := fun h8 : MH => mX (mE mtab d) KX4_number 32 [some (.ref 55), some (.ref a1), some (.int a2), some (.int a3)] [] h8) (a := (sI h3 a1 (ix (gI h3 55 6)) (gI h3 54 (ix (gI h3 55 5))))) (a' := (sI h3 a1 (ix (gI h3 55 6)) (gI h3 54 (ix (gI h3 55 5))))) rfl fun h8 eh8 => ?_
      have L8 : lay h8 := eh8 ▸ layI L3 (lay_ne L3 (by rw [c7.1]; decide))
      refine mX_to 1 (k' := 33) (ls' := [some (.ref 55), some (.ref a1), some (.int a2), some (.int a3)]) (st' := [.ref 55]) (h' := h8) rfl ?_
      refine mX_ckct (m := mcl (mE mtab d 70 [.ref 55] h8) 0 34 [some (.ref 55), some (.ref a1), some (.int a2), some (.int a3)] []) (k_55 L8) rfl ?_
      refine mk_cVe (o := F_X4_advance d h8) ?_
      intro wh9 h9 eh9
      have L9 : lay h9 := lay_call d 70 [.ref 55] h8 _ h9 rfl eh9 L8
      refine mX_to 1 (k' := 35) (ls' := [some (.ref 55), some (.ref a1), some (.int a2), some (.int a3)]) (st' := [.int 1]) (h' := h9) rfl ?_
      exact mX_retb (by decide) rfl
  · refine mX_to 2 (k' := 6) (ls' := [some (.ref 55), some (.ref a1), some (.int a2), some (.int a3)]) (st' := [.int 1, .ref 55]) (h' := h1) rfl ?_
    refine mX_ckct (m := mcl (mE mtab d 69 [.ref 55, .int 1] h1) 1 7 [some (.ref 55), some (.ref a1), some (.int a2), some (.int a3)] []) (k_55 L1) rfl ?_
    refine mk_cIe (o := F_X4_refuse d 1 h1) ?_
    intro x13 h12 eh12
    have L12 : lay h12 := lay_call d 69 [.ref 55, .int 1] h1 _ h12 rfl eh12 L1
    exact mX_retc rfl
theorem S_X4_placed {h : MH} (L : lay h) (d : Nat) : F_X4_placed (d + 1) h = cI (F_X4_expect d 314 h) (fun x2 h1 => (if x2 = 0 then some (.int 0, h1) else cI (F_X4_number d 58 0 8 h1) (fun x4 h3 => (if x4 = 0 then some (.int 0, h3) else some (.int 1, h3))))) := by
  refine mE_eq (q := (yX4_placed, cX4_placed, 1, (some .boolean), KX4_placed)) (C := KX4_placed) (ls := [some (.ref 55)]) rfl rfl rfl rfl ?_
  refine mX_to 2 (k' := 2) (ls' := [some (.ref 55)]) (st' := [.int 314, .ref 55]) (h' := h) rfl ?_
  refine mX_ckct (m := mcl (mE mtab d 74 [.ref 55, .int 314] h) 1 3 [some (.ref 55)] []) (k_55 L) rfl ?_
  refine mk_cIe (o := F_X4_expect d 314 h) ?_
  intro x2 h1 eh1
  have L1 : lay h1 := lay_call d 74 [.ref 55, .int 314] h _ h1 rfl eh1 L
  refine mX_br (t := 13) (f := 4) (ls' := [some (.ref 55)]) (st' := []) (h' := h1) rfl ?_ ?_
  · refine mX_to 1 (k' := 14) (ls' := [some (.ref 55)]) (st' := [.int 0]) (h' := h1) rfl ?_
    exact mX_retb (by decide) rfl
  · refine mX_to 2 (k' := 6) (ls' := [some (.ref 55)]) (st' := [.ref 55, .ref 55]) (h' := h1) rfl ?_
    refine mX_ckv (v := .ref (gR h1 55 3)) (v' := .ref 58) (k' := 7) (ls' := [some (.ref 55)]) (st' := [.ref 55]) (h' := h1) (k_55 L1) (congrArg Value.ref (r_55_3 L1)) rfl ?_
    refine mX_to 2 (k' := 9) (ls' := [some (.ref 55)]) (st' := [.int 8, .int 0, .ref 58, .ref 55]) (h' := h1) rfl ?_
    refine mX_ckct (m := mcl (mE mtab d 85 [.ref 55, .ref 58, .int 0, .int 8] h1) 1 10 [some (.ref 55)] []) (k_55 L1) rfl ?_
    refine mk_cIe (o := F_X4_number d 58 0 8 h1) ?_
    intro x4 h3 eh3
    have L3 : lay h3 := lay_call d 85 [.ref 55, .ref 58, .int 0, .int 8] h1 _ h3 rfl eh3 L1
    refine mX_br (t := 13) (f := 11) (ls' := [some (.ref 55)]) (st' := []) (h' := h3) rfl ?_ ?_
    · refine mX_to 1 (k' := 14) (ls' := [some (.ref 55)]) (st' := [.int 0]) (h' := h3) rfl ?_
      exact mX_retb (by decide) rfl
    · refine mX_to 2 (k' := 14) (ls' := [some (.ref 55)]) (st' := [.int 1]) (h' := h3) rfl ?_
      exact mX_retb (by decide) rfl
theorem S_X4_numbers {h : MH} (L : lay h) (d : Nat) (a1 : Int32) : F_X4_numbers (d + 1) a1 h = (if a1 = 302 then cI (F_X4_number d 57 1 9 h) (fun x2 h1 => (if x2 = 0 then some (.int 0, h1) else cI (F_X4_placed d h1) (fun x4 h3 => (if x4 = 0 then some (.int 0, h3) else some (.int 1, h3))))) else (if a1 = 303 then cI (F_X4_number d 57 0 3 h) (fun x6 h5 => (if x6 = 0 then some (.int 0, h5) else cI (F_X4_placed d h5) (fun x8 h7 => (if x8 = 0 then some (.int 0, h7) else some (.int 1, h7))))) else (if a1 = 304 then cI (F_X4_number d 57 0 3 h) (fun x10 h9 => ck (mrt 1 x10) (some (.int x10, h9))) else (if a1 = 305 then cI (F_X4_number d 57 0 3 h) (fun x12 h11 => ck (mrt 1 x12) (some (.int x12, h11))) else (if a1 = 306 then cI (F_X4_number d 57 1 9 h) (fun x14 h13 => (if x14 = 0 then some (.int 0, h13) else cI (F_X4_placed d h13) (fun x16 h15 => (if x16 = 0 then some (.int 0, h15) else some (.int 1, h15))))) else (if a1 = 307 then cI (F_X4_number d 57 1 60 h) (fun x18 h17 => ck (mrt 1 x18) (some (.int x18, h17))) else cI (F_X4_number d 57 0 3 h) (fun x20 h19 => ck (mrt 1 x20) (some (.int x20, h19))))))))) := by
  refine mE_eq (q := (yX4_numbers, cX4_numbers, 2, (some .boolean), KX4_numbers)) (C := KX4_numbers) (ls := [some (.ref 55), some (.int a1)]) rfl rfl rfl rfl ?_
  refine mX_to 1 (k' := 1) (ls' := [some (.ref 55), some (.int a1)]) (st' := [.int a1]) (h' := h) rfl ?_
  refine mX_sw (x := a1) (t := 51) (sw := [(302, 2), (303, 16), (304, 51), (305, 51), (306, 30), (307, 44)]) (ls' := [some (.ref 55), some (.int a1)]) (st' := []) (h' := h) rfl ?_
  refine msw_cons ?_ ?_
  · refine mX_to 2 (k' := 4) (ls' := [some (.ref 55), some (.int a1)]) (st' := [.ref 55, .ref 55]) (h' := h) rfl ?_
    refine mX_ckv (v := .ref (gR h 55 2)) (v' := .ref 57) (k' := 5) (ls' := [some (.ref 55), some (.int a1)]) (st' := [.ref 55]) (h' := h) (k_55 L) (congrArg Value.ref (r_55_2 L)) rfl ?_
    refine mX_to 2 (k' := 7) (ls' := [some (.ref 55), some (.int a1)]) (st' := [.int 9, .int 1, .ref 57, .ref 55]) (h' := h) rfl ?_
    refine mX_ckct (m := mcl (mE mtab d 85 [.ref 55, .ref 57, .int 1, .int 9] h) 1 8 [some (.ref 55), some (.int a1)] []) (k_55 L) rfl ?_
    refine mk_cIe (o := F_X4_number d 57 1 9 h) ?_
    intro x2 h1 eh1
    have L1 : lay h1 := lay_call d 85 [.ref 55, .ref 57, .int 1, .int 9] h _ h1 rfl eh1 L
    refine mX_br (t := 14) (f := 9) (ls' := [some (.ref 55), some (.int a1)]) (st' := []) (h' := h1) rfl ?_ ?_
    · refine mX_to 1 (k' := 15) (ls' := [some (.ref 55), some (.int a1)]) (st' := [.int 0]) (h' := h1) rfl ?_
      exact mX_retb (by decide) rfl
    · refine mX_to 1 (k' := 10) (ls' := [some (.ref 55), some (.int a1)]) (st' := [.ref 55]) (h' := h1) rfl ?_
      refine mX_ckct (m := mcl (mE mtab d 86 [.ref 55] h1) 1 11 [some (.ref 55), some (.int a1)] []) (k_55 L1) rfl ?_
      refine mk_cIe (o := F_X4_placed d h1) ?_
      intro x4 h3 eh3
      have L3 : lay h3 := lay_call d 86 [.ref 55] h1 _ h3 rfl eh3 L1
      refine mX_br (t := 14) (f := 12) (ls' := [some (.ref 55), some (.int a1)]) (st' := []) (h' := h3) rfl ?_ ?_
      · refine mX_to 1 (k' := 15) (ls' := [some (.ref 55), some (.int a1)]) (st' := [.int 0]) (h' := h3) rfl ?_
        exact mX_retb (by decide) rfl
      · refine mX_to 2 (k' := 15) (ls' := [some (.ref 55), some (.int a1)]) (st' := [.int 1]) (h' := h3) rfl ?_
        exact mX_retb (by decide) rfl
  refine msw_cons ?_ ?_
  · refine mX_to 2 (k' := 18) (ls' := [some (.ref 55), some (.int a1)]) (st' := [.ref 55, .ref 55]) (h' := h) rfl ?_
    refine mX_ckv (v := .ref (gR h 55 2)) (v' := .ref 57) (k' := 19) (ls' := [some (.ref 55), some (.int a1)]) (st' := [.ref 55]) (h' := h) (k_55 L) (congrArg Value.ref (r_55_2 L)) rfl ?_
    refine mX_to 2 (k' := 21) (ls' := [some (.ref 55), some (.int a1)]) (st' := [.int 3, .int 0, .ref 57, .ref 55]) (h' := h) rfl ?_
    refine mX_ckct (m := mcl (mE mtab d 85 [.ref 55, .ref 57, .int 0, .int 3] h) 1 22 [some (.ref 55), some (.int a1)] []) (k_55 L) rfl ?_
    refine mk_cIe (o := F_X4_number d 57 0 3 h) ?_
    intro x6 h5 eh5
    have L5 : lay h5 := lay_call d 85 [.ref 55, .ref 57, .int 0, .int 3] h _ h5 rfl eh5 L
    refine mX_br (t := 28) (f := 23) (ls' := [some (.ref 55), some (.int a1)]) (st' := []) (h' := h5) rfl ?_ ?_
    · refine mX_to 1 (k' := 29) (ls' := [some (.ref 55), some (.int a1)]) (st' := [.int 0]) (h' := h5) rfl ?_
      exact mX_retb (by decide) rfl
    · refine mX_to 1 (k' := 24) (ls' := [some (.ref 55), some (.int a1)]) (st' := [.ref 55]) (h' := h5) rfl ?_
      refine mX_ckct (m := mcl (mE mtab d 86 [.ref 55] h5) 1 25 [some (.ref 55), some (.int a1)] []) (k_55 L5) rfl ?_
      refine mk_cIe (o := F_X4_placed d h5) ?_
      intro x8 h7 eh7
      have L7 : lay h7 := lay_call d 86 [.ref 55] h5 _ h7 rfl eh7 L5
      refine mX_br (t := 28) (f := 26) (ls' := [some (.ref 55), some (.int a1)]) (st' := []) (h' := h7) rfl ?_ ?_
      · refine mX_to 1 (k' := 29) (ls' := [some (.ref 55), some (.int a1)]) (st' := [.int 0]) (h' := h7) rfl ?_
        exact mX_retb (by decide) rfl
      · refine mX_to 2 (k' := 29) (ls' := [some (.ref 55), some (.int a1)]) (st' := [.int 1]) (h' := h7) rfl ?_
        exact mX_retb (by decide) rfl
  refine msw_cons ?_ ?_
  · refine mX_to 2 (k' := 53) (ls' := [some (.ref 55), some (.int a1)]) (st' := [.ref 55, .ref 55]) (h' := h) rfl ?_
    refine mX_ckv (v := .ref (gR h 55 2)) (v' := .ref 57) (k' := 54) (ls' := [some (.ref 55), some (.int a1)]) (st' := [.ref 55]) (h' := h) (k_55 L) (congrArg Value.ref (r_55_2 L)) rfl ?_
    refine mX_to 2 (k' := 56) (ls' := [some (.ref 55), some (.int a1)]) (st' := [.int 3, .int 0, .ref 57, .ref 55]) (h' := h) rfl ?_
    refine mX_ckct (m := mcl (mE mtab d 85 [.ref 55, .ref 57, .int 0, .int 3] h) 1 57 [some (.ref 55), some (.int a1)] []) (k_55 L) rfl ?_
    refine mk_cIe (o := F_X4_number d 57 0 3 h) ?_
    intro x10 h9 eh9
    have L9 : lay h9 := lay_call d 85 [.ref 55, .ref 57, .int 0, .int 3] h _ h9 rfl eh9 L
    exact mX_retc rfl
  refine msw_cons ?_ ?_
  · refine mX_to 2 (k' := 53) (ls' := [some (.ref 55), some (.int a1)]) (st' := [.ref 55, .ref 55]) (h' := h) rfl ?_
    refine mX_ckv (v := .ref (gR h 55 2)) (v' := .ref 57) (k' := 54) (ls' := [some (.ref 55), some (.int a1)]) (st' := [.ref 55]) (h' := h) (k_55 L) (congrArg Value.ref (r_55_2 L)) rfl ?_
    refine mX_to 2 (k' := 56) (ls' := [some (.ref 55), some (.int a1)]) (st' := [.int 3, .int 0, .ref 57, .ref 55]) (h' := h) rfl ?_
    refine mX_ckct (m := mcl (mE mtab d 85 [.ref 55, .ref 57, .int 0, .int 3] h) 1 57 [some (.ref 55), some (.int a1)] []) (k_55 L) rfl ?_
    refine mk_cIe (o := F_X4_number d 57 0 3 h) ?_
    intro x12 h11 eh11
    have L11 : lay h11 := lay_call d 85 [.ref 55, .ref 57, .int 0, .int 3] h _ h11 rfl eh11 L
    exact mX_retc rfl
  refine msw_cons ?_ ?_
  · refine mX_to 2 (k' := 32) (ls' := [some (.ref 55), some (.int a1)]) (st' := [.ref 55, .ref 55]) (h' := h) rfl ?_
    refine mX_ckv (v := .ref (gR h 55 2)) (v' := .ref 57) (k' := 33) (ls' := [some (.ref 55), some (.int a1)]) (st' := [.ref 55]) (h' := h) (k_55 L) (congrArg Value.ref (r_55_2 L)) rfl ?_
    refine mX_to 2 (k' := 35) (ls' := [some (.ref 55), some (.int a1)]) (st' := [.int 9, .int 1, .ref 57, .ref 55]) (h' := h) rfl ?_
    refine mX_ckct (m := mcl (mE mtab d 85 [.ref 55, .ref 57, .int 1, .int 9] h) 1 36 [some (.ref 55), some (.int a1)] []) (k_55 L) rfl ?_
    refine mk_cIe (o := F_X4_number d 57 1 9 h) ?_
    intro x14 h13 eh13
    have L13 : lay h13 := lay_call d 85 [.ref 55, .ref 57, .int 1, .int 9] h _ h13 rfl eh13 L
    refine mX_br (t := 42) (f := 37) (ls' := [some (.ref 55), some (.int a1)]) (st' := []) (h' := h13) rfl ?_ ?_
    · refine mX_to 1 (k' := 43) (ls' := [some (.ref 55), some (.int a1)]) (st' := [.int 0]) (h' := h13) rfl ?_
      exact mX_retb (by decide) rfl
    · refine mX_to 1 (k' := 38) (ls' := [some (.ref 55), some (.int a1)]) (st' := [.ref 55]) (h' := h13) rfl ?_
      refine mX_ckct (m := mcl (mE mtab d 86 [.ref 55] h13) 1 39 [some (.ref 55), some (.int a1)] []) (k_55 L13) rfl ?_
      refine mk_cIe (o := F_X4_placed d h13) ?_
      intro x16 h15 eh15
      have L15 : lay h15 := lay_call d 86 [.ref 55] h13 _ h15 rfl eh15 L13
      refine mX_br (t := 42) (f := 40) (ls' := [some (.ref 55), some (.int a1)]) (st' := []) (h' := h15) rfl ?_ ?_
      · refine mX_to 1 (k' := 43) (ls' := [some (.ref 55), some (.int a1)]) (st' := [.int 0]) (h' := h15) rfl ?_
        exact mX_retb (by decide) rfl
      · refine mX_to 2 (k' := 43) (ls' := [some (.ref 55), some (.int a1)]) (st' := [.int 1]) (h' := h15) rfl ?_
        exact mX_retb (by decide) rfl
  refine msw_cons ?_ ?_
  · refine mX_to 2 (k' := 46) (ls' := [some (.ref 55), some (.int a1)]) (st' := [.ref 55, .ref 55]) (h' := h) rfl ?_
    refine mX_ckv (v := .ref (gR h 55 2)) (v' := .ref 57) (k' := 47) (ls' := [some (.ref 55), some (.int a1)]) (st' := [.ref 55]) (h' := h) (k_55 L) (congrArg Value.ref (r_55_2 L)) rfl ?_
    refine mX_to 2 (k' := 49) (ls' := [some (.ref 55), some (.int a1)]) (st' := [.int 60, .int 1, .ref 57, .ref 55]) (h' := h) rfl ?_
    refine mX_ckct (m := mcl (mE mtab d 85 [.ref 55, .ref 57, .int 1, .int 60] h) 1 50 [some (.ref 55), some (.int a1)] []) (k_55 L) rfl ?_
    refine mk_cIe (o := F_X4_number d 57 1 60 h) ?_
    intro x18 h17 eh17
    have L17 : lay h17 := lay_call d 85 [.ref 55, .ref 57, .int 1, .int 60] h _ h17 rfl eh17 L
    exact mX_retc rfl
  refine msw_nil ?_
  refine mX_to 2 (k' := 53) (ls' := [some (.ref 55), some (.int a1)]) (st' := [.ref 55, .ref 55]) (h' := h) rfl ?_
  refine mX_ckv (v := .ref (gR h 55 2)) (v' := .ref 57) (k' := 54) (ls' := [some (.ref 55), some (.int a1)]) (st' := [.ref 55]) (h' := h) (k_55 L) (congrArg Value.ref (r_55_2 L)) rfl ?_
  refine mX_to 2 (k' := 56) (ls' := [some (.ref 55), some (.int a1)]) (st' := [.int 3, .int 0, .ref 57, .ref 55]) (h' := h) rfl ?_
  refine mX_ckct (m := mcl (mE mtab d 85 [.ref 55, .ref 57, .int 0, .int 3] h) 1 57 [some (.ref 55), some (.int a1)] []) (k_55 L) rfl ?_
  refine mk_cIe (o := F_X4_number d 57 0 3 h) ?_
  intro x20 h19 eh19
  have L19 : lay h19 := lay_call d 85 [.ref 55, .ref 57, .int 0, .int 3] h _ h19 rfl eh19 L
  exact mX_retc rfl
