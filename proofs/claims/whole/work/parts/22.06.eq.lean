--deps:19.lay 21.facts 22.00.names
/-! EQUATIONS over the fixed cells (written by wip/gen/sgen.py) -/
theorem S_X11_partOf {h : MH} (L : lay h) (d : Nat) (a1 : Int32) : F_X11_partOf (d + 1) a1 h = (if a1 = 40 then (if (gI h 67 9) = 41 then some (.int 0, h) else some (.int (-1), h)) else (if a1 = 41 then cL (F_X11_w4 d 116 104 101 110 h) (fun x2 h1 => cI (F_X11_isWord d x2 h1) (fun x4 h3 => (if x4 = 0 then some (.int (-1), h3) else cI (F_X11_isCompared d h3) (fun x6 h5 => (if x6 = 0 then some (.int (-1), h5) else some (.int 42, h5)))))) else (if a1 = 42 then cL (F_X11_w4 d 101 108 115 101 h) (fun x8 h7 => cI (F_X11_isWord d x8 h7) (fun x10 h9 => (if x10 = 0 then some (.int (-1), h9) else some (.int 43, h9)))) else (if a1 = 43 then cL (F_X11_w3 d 101 110 100 h) (fun x12 h11 => cI (F_X11_isWord d x12 h11) (fun x14 h13 => (if x14 = 0 then some (.int (-1), h13) else some (.int 0, h13)))) else some (.int (-1), h))))) := by
  refine mE_eq (q := (yX11_partOf, cX11_partOf, 2, (some .int), KX11_partOf)) (C := KX11_partOf) (ls := [some (.ref 67), some (.int a1)]) rfl rfl rfl rfl ?_
  refine mX_to 1 (k' := 1) (ls' := [some (.ref 67), some (.int a1)]) (st' := [.int a1]) (h' := h) rfl ?_
  refine mX_sw (x := a1) (t := 48) (sw := [(40, 2), (41, 10), (42, 25), (43, 37)]) (ls' := [some (.ref 67), some (.int a1)]) (st' := []) (h' := h) rfl ?_
  refine msw_cons ?_ ?_
  · refine mX_to 1 (k' := 3) (ls' := [some (.ref 67), some (.int a1)]) (st' := [.ref 67]) (h' := h) rfl ?_
    refine mX_ckv (v := .int (gI h 67 9)) (v' := .int (gI h 67 9)) (k' := 4) (ls' := [some (.ref 67), some (.int a1)]) (st' := []) (h' := h) (k_67 L) rfl rfl ?_
    refine mX_to 1 (k' := 5) (ls' := [some (.ref 67), some (.int a1)]) (st' := [.int 41, .int (gI h 67 9)]) (h' := h) rfl ?_
    refine mX_br (t := 6) (f := 8) (ls' := [some (.ref 67), some (.int a1)]) (st' := []) (h' := h) rfl ?_ ?_
    · refine mX_to 2 (k' := 9) (ls' := [some (.ref 67), some (.int a1)]) (st' := [.int 0]) (h' := h) rfl ?_
      exact mX_reti rfl
    · refine mX_to 1 (k' := 9) (ls' := [some (.ref 67), some (.int a1)]) (st' := [.int (-1)]) (h' := h) rfl ?_
      exact mX_reti rfl
  refine msw_cons ?_ ?_
  · refine mX_to 5 (k' := 15) (ls' := [some (.ref 67), some (.int a1)]) (st' := [.int 110, .int 101, .int 104, .int 116, .ref 67]) (h' := h) rfl ?_
    refine mX_cLe (o := F_X11_w4 d 116 104 101 110 h) (k' := 16) (ls' := [some (.ref 67), some (.int a1)]) (st' := [.ref 67]) rfl ?_
    intro x2 h1 eh1
    have L1 : lay h1 := lay_call d 103 [.int 116, .int 104, .int 101, .int 110] h _ h1 rfl eh1 L
    refine mX_ckct (m := mcl (mE mtab d 104 [.ref 67, .long x2] h1) 1 17 [some (.ref 67), some (.int a1)] []) (k_67 L1) rfl ?_
    refine mk_cIe (o := F_X11_isWord d x2 h1) ?_
    intro x4 h3 eh3
    have L3 : lay h3 := lay_call d 104 [.ref 67, .long x2] h1 _ h3 rfl eh3 L1
    refine mX_br (t := 23) (f := 18) (ls' := [some (.ref 67), some (.int a1)]) (st' := []) (h' := h3) rfl ?_ ?_
    · refine mX_to 1 (k' := 24) (ls' := [some (.ref 67), some (.int a1)]) (st' := [.int (-1)]) (h' := h3) rfl ?_
      exact mX_reti rfl
    · refine mX_to 1 (k' := 19) (ls' := [some (.ref 67), some (.int a1)]) (st' := [.ref 67]) (h' := h3) rfl ?_
      refine mX_ckct (m := mcl (mE mtab d 114 [.ref 67] h3) 1 20 [some (.ref 67), some (.int a1)] []) (k_67 L3) rfl ?_
      refine mk_cIe (o := F_X11_isCompared d h3) ?_
      intro x6 h5 eh5
      have L5 : lay h5 := lay_call d 114 [.ref 67] h3 _ h5 rfl eh5 L3
      refine mX_br (t := 23) (f := 21) (ls' := [some (.ref 67), some (.int a1)]) (st' := []) (h' := h5) rfl ?_ ?_
      · refine mX_to 1 (k' := 24) (ls' := [some (.ref 67), some (.int a1)]) (st' := [.int (-1)]) (h' := h5) rfl ?_
        exact mX_reti rfl
      · refine mX_to 2 (k' := 24) (ls' := [some (.ref 67), some (.int a1)]) (st' := [.int 42]) (h' := h5) rfl ?_
        exact mX_reti rfl
  refine msw_cons ?_ ?_
  · refine mX_to 5 (k' := 30) (ls' := [some (.ref 67), some (.int a1)]) (st' := [.int 101, .int 115, .int 108, .int 101, .ref 67]) (h' := h) rfl ?_
    refine mX_cLe (o := F_X11_w4 d 101 108 115 101 h) (k' := 31) (ls' := [some (.ref 67), some (.int a1)]) (st' := [.ref 67]) rfl ?_
    intro x8 h7 eh7
    have L7 : lay h7 := lay_call d 103 [.int 101, .int 108, .int 115, .int 101] h _ h7 rfl eh7 L
    refine mX_ckct (m := mcl (mE mtab d 104 [.ref 67, .long x8] h7) 1 32 [some (.ref 67), some (.int a1)] []) (k_67 L7) rfl ?_
    refine mk_cIe (o := F_X11_isWord d x8 h7) ?_
    intro x10 h9 eh9
    have L9 : lay h9 := lay_call d 104 [.ref 67, .long x8] h7 _ h9 rfl eh9 L7
    refine mX_br (t := 35) (f := 33) (ls' := [some (.ref 67), some (.int a1)]) (st' := []) (h' := h9) rfl ?_ ?_
    · refine mX_to 1 (k' := 36) (ls' := [some (.ref 67), some (.int a1)]) (st' := [.int (-1)]) (h' := h9) rfl ?_
      exact mX_reti rfl
    · refine mX_to 2 (k' := 36) (ls' := [some (.ref 67), some (.int a1)]) (st' := [.int 43]) (h' := h9) rfl ?_
      exact mX_reti rfl
  refine msw_cons ?_ ?_
  · refine mX_to 4 (k' := 41) (ls' := [some (.ref 67), some (.int a1)]) (st' := [.int 100, .int 110, .int 101, .ref 67]) (h' := h) rfl ?_
    refine mX_cLe (o := F_X11_w3 d 101 110 100 h) (k' := 42) (ls' := [some (.ref 67), some (.int a1)]) (st' := [.ref 67]) rfl ?_
    intro x12 h11 eh11
    have L11 : lay h11 := lay_call d 102 [.int 101, .int 110, .int 100] h _ h11 rfl eh11 L
    refine mX_ckct (m := mcl (mE mtab d 104 [.ref 67, .long x12] h11) 1 43 [some (.ref 67), some (.int a1)] []) (k_67 L11) rfl ?_
    refine mk_cIe (o := F_X11_isWord d x12 h11) ?_
    intro x14 h13 eh13
    have L13 : lay h13 := lay_call d 104 [.ref 67, .long x12] h11 _ h13 rfl eh13 L11
    refine mX_br (t := 46) (f := 44) (ls' := [some (.ref 67), some (.int a1)]) (st' := []) (h' := h13) rfl ?_ ?_
    · refine mX_to 1 (k' := 47) (ls' := [some (.ref 67), some (.int a1)]) (st' := [.int (-1)]) (h' := h13) rfl ?_
      exact mX_reti rfl
    · refine mX_to 2 (k' := 47) (ls' := [some (.ref 67), some (.int a1)]) (st' := [.int 0]) (h' := h13) rfl ?_
      exact mX_reti rfl
  refine msw_nil ?_
  refine mX_to 1 (k' := 49) (ls' := [some (.ref 67), some (.int a1)]) (st' := [.int (-1)]) (h' := h) rfl ?_
  exact mX_reti rfl
theorem S_X11_behindOne_82 {h : MH} (L : lay h) (d : Nat) (l1 : Int32) (l2 : Int32) (l3 : Int32) : G_X11_behindOne_82 d l1 l2 l3 h = cV (F_X11_settle d 7 h) (fun h24 => some (.int 1, h24)) := by
  refine mX_to 2 (k' := 84) (ls' := [some (.ref 67), some (.int l1), some (.int l2), some (.int l3)]) (st' := [.int 7, .ref 67]) (h' := h) rfl ?_
  refine mX_ckct (m := mcl (mE mtab d 118 [.ref 67, .int 7] h) 0 85 [some (.ref 67), some (.int l1), some (.int l2), some (.int l3)] []) (k_67 L) rfl ?_
  refine mk_cVe (o := F_X11_settle d 7 h) ?_
  intro wh24 h24 eh24
  have L24 : lay h24 := lay_call d 118 [.ref 67, .int 7] h _ h24 rfl eh24 L
  refine mX_to 1 (k' := 86) (ls' := [some (.ref 67), some (.int l1), some (.int l2), some (.int l3)]) (st' := [.int 1]) (h' := h24) rfl ?_
  exact mX_retb (by decide) rfl
theorem S_X11_behindOne_14 {h : MH} (L : lay h) (d : Nat) (l1 : Int32) (s0 : Int32) : G_X11_behindOne_14 d l1 s0 h = cV (F_X11_settle d s0 h) (fun h25 => ck (ib (gI h25 67 16) 160) (lt_ (sI h25 72 (ix (gI h25 67 16)) l1) fun h27 => lt_ (sI h27 67 16 ((gI h27 67 16) + 1)) fun h29 => lt_ (sI h29 67 18 0) fun h31 => cV (F_X11_nextToken d h31) (fun h32 => some (.int 1, h32)))) := by
  refine mX_ckct (m := mcl (mE mtab d 118 [.ref 67, .int s0] h) 0 15 [some (.ref 67), some (.int l1), none, none] []) (k_67 L) rfl ?_
  refine mk_cVe (o := F_X11_settle d s0 h) ?_
  intro wh25 h25 eh25
  have L25 : lay h25 := lay_call d 118 [.ref 67, .int s0] h _ h25 rfl eh25 L
  refine mX_to 1 (k' := 16) (ls' := [some (.ref 67), some (.int l1), none, none]) (st' := [.ref 67]) (h' := h25) rfl ?_
  refine mX_ckv (v := .ref (gR h25 67 15)) (v' := .ref 72) (k' := 17) (ls' := [some (.ref 67), some (.int l1), none, none]) (st' := []) (h' := h25) (k_67 L25) (congrArg Value.ref (r_67_15 L25)) rfl ?_
  refine mX_to 1 (k' := 18) (ls' := [some (.ref 67), some (.int l1), none, none]) (st' := [.ref 67, .ref 72]) (h' := h25) rfl ?_
  refine mX_ckv (v := .int (gI h25 67 16)) (v' := .int (gI h25 67 16)) (k' := 19) (ls' := [some (.ref 67), some (.int l1), none, none]) (st' := [.ref 72]) (h' := h25) (k_67 L25) rfl rfl ?_
  refine mX_to 1 (k' := 20) (ls' := [some (.ref 67), some (.int l1), none, none]) (st' := [.int l1, .int (gI h25 67 16), .ref 72]) (h' := h25) rfl ?_
  refine mX_cki (k' := 21) (ls' := [some (.ref 67), some (.int l1), none, none]) (st' := []) (h' := (sI h25 72 (ix (gI h25 67 16)) l1)) (ckA0 (k_72 L25) (n_72 L25)) rfl fun c26 => ?_
  refine lt_geq2 (X := fun h27 : MH => mX (mE mtab d) KX11_behindOne 21 [some (.ref 67), some (.int l1), none, none] [] h27) (a := (sI h25 72 (ix (gI h25 67 16)) l1)) (a' := (sI h25 72 (ix (gI h25 67 16)) l1)) rfl fun h27 eh27 => ?_
  have L27 : lay h27 := eh27 ▸ layI L25 (by decide)
  refine mX_to 2 (k' := 23) (ls' := [some (.ref 67), some (.int l1), none, none]) (st' := [.ref 67, .ref 67]) (h' := h27) rfl ?_
  refine mX_ckv (v := .int (gI h27 67 16)) (v' := .int (gI h27 67 16)) (k' := 24) (ls' := [some (.ref 67), some (.int l1), none, none]) (st' := [.ref 67]) (h' := h27) (k_67 L27) rfl rfl ?_
  refine mX_to 2 (k' := 26) (ls' := [some (.ref 67), some (.int l1), none, none]) (st' := [.int ((gI h27 67 16) + 1), .ref 67]) (h' := h27) rfl ?_
  refine mX_ckt (k' := 27) (ls' := [some (.ref 67), some (.int l1), none, none]) (st' := []) (h' := (sI h27 67 16 ((gI h27 67 16) + 1))) (k_67 L27) rfl ?_
  refine lt_geq2 (X := fun h29 : MH => mX (mE mtab d) KX11_behindOne 27 [some (.ref 67), some (.int l1), none, none] [] h29) (a := (sI h27 67 16 ((gI h27 67 16) + 1))) (a' := (sI h27 67 16 ((gI h27 67 16) + 1))) rfl fun h29 eh29 => ?_
  have L29 : lay h29 := eh29 ▸ layI L27 (by decide)
  refine mX_to 2 (k' := 29) (ls' := [some (.ref 67), some (.int l1), none, none]) (st' := [.int 0, .ref 67]) (h' := h29) rfl ?_
  refine mX_ckt (k' := 30) (ls' := [some (.ref 67), some (.int l1), none, none]) (st' := []) (h' := (sI h29 67 18 0)) ⟨(k_67 L29), by decide⟩ rfl ?_
  refine lt_geq2 (X := fun h31 : MH => mX (mE mtab d) KX11_behindOne 30 [some (.ref 67), some (.int l1), none, none] [] h31) (a := (sI h29 67 18 0)) (a' := (sI h29 67 18 0)) rfl fun h31 eh31 => ?_
  have L31 : lay h31 := eh31 ▸ layI L29 (by decide)
  refine mX_to 1 (k' := 31) (ls' := [some (.ref 67), some (.int l1), none, none]) (st' := [.ref 67]) (h' := h31) rfl ?_
  refine mX_ckct (m := mcl (mE mtab d 100 [.ref 67] h31) 0 32 [some (.ref 67), some (.int l1), none, none] []) (k_67 L31) rfl ?_
  refine mk_cVe (o := F_X11_nextToken d h31) ?_
  intro wh32 h32 eh32
  have L32 : lay h32 := lay_call d 100 [.ref 67] h31 _ h32 rfl eh32 L31
  refine mX_to 1 (k' := 33) (ls' := [some (.ref 67), some (.int l1), none, none]) (st' := [.int 1]) (h' := h32) rfl ?_
  exact mX_retb (by decide) rfl
theorem S_X11_behindOne {h : MH} (L : lay h) (d : Nat) : F_X11_behindOne (d + 1) h = cI (F_X11_betweenOf d h) (fun x2 h1 => (if x2 < 0 then cI (F_X11_openNow d h1) (fun x4 h3 => cI (F_X11_partOf d x4 h3) (fun x6 h5 => (if x6 < 0 then some (.int 0, h5) else cV (F_X11_settle d 1 h5) (fun h7 => cV (F_X11_nextToken d h7) (fun h8 => (if x6 ≤ 0 then lt_ (sI h8 67 17 ((gI h8 67 17) - 1)) fun h10 => lt_ (sI h10 67 16 ((gI h10 67 16) - 1)) fun h12 => (if x4 = 43 then cV (F_X11_emit d 3 0 h12) (fun h13 => G_X11_behindOne_82 d x2 x4 x6 h13) else G_X11_behindOne_82 d x2 x4 x6 h12) else cI (F_X11_openAt d h8) (fun x15 h14 => ck (ib x15 160) (lt_ (sI h14 72 (ix x15) x6) fun h17 => lt_ (sI h17 67 18 0) fun h19 => some (.int 1, h19))))))))) else cI (F_X11_rank d x2 h1) (fun x21 h20 => (if x21 = 4 then G_X11_behindOne_14 d x2 5 h20 else cI (F_X11_rank d x2 h20) (fun x23 h22 => G_X11_behindOne_14 d x2 x23 h22))))) := by
  refine mE_eq (q := (yX11_behindOne, cX11_behindOne, 4, (some .boolean), KX11_behindOne)) (C := KX11_behindOne) (ls := [some (.ref 67), none, none, none]) rfl rfl rfl rfl ?_
  refine mX_to 1 (k' := 1) (ls' := [some (.ref 67), none, none, none]) (st' := [.ref 67]) (h' := h) rfl ?_
  refine mX_ckct (m := mcl (mE mtab d 116 [.ref 67] h) 1 2 [some (.ref 67), none, none, none] []) (k_67 L) rfl ?_
  refine mk_cIe (o := F_X11_betweenOf d h) ?_
  intro x2 h1 eh1
  have L1 : lay h1 := lay_call d 116 [.ref 67] h _ h1 rfl eh1 L
  refine mX_to 2 (k' := 4) (ls' := [some (.ref 67), some (.int x2), none, none]) (st' := [.int x2]) (h' := h1) rfl ?_
  refine mX_br (t := 34) (f := 5) (ls' := [some (.ref 67), some (.int x2), none, none]) (st' := []) (h' := h1) rfl ?_ ?_
  · refine mX_to 1 (k' := 35) (ls' := [some (.ref 67), some (.int x2), none, none]) (st' := [.ref 67]) (h' := h1) rfl ?_
    refine mX_ckct (m := mcl (mE mtab d 112 [.ref 67] h1) 1 36 [some (.ref 67), some (.int x2), none, none] []) (k_67 L1) rfl ?_
    refine mk_cIe (o := F_X11_openNow d h1) ?_
    intro x4 h3 eh3
    have L3 : lay h3 := lay_call d 112 [.ref 67] h1 _ h3 rfl eh3 L1
    refine mX_to 3 (k' := 39) (ls' := [some (.ref 67), some (.int x2), some (.int x4), none]) (st' := [.int x4, .ref 67]) (h' := h3) rfl ?_
    refine mX_ckct (m := mcl (mE mtab d 119 [.ref 67, .int x4] h3) 1 40 [some (.ref 67), some (.int x2), some (.int x4), none] []) (k_67 L3) rfl ?_
    refine mk_cIe (o := F_X11_partOf d x4 h3) ?_
    intro x6 h5 eh5
    have L5 : lay h5 := lay_call d 119 [.ref 67, .int x4] h3 _ h5 rfl eh5 L3
    refine mX_to 2 (k' := 42) (ls' := [some (.ref 67), some (.int x2), some (.int x4), some (.int x6)]) (st' := [.int x6]) (h' := h5) rfl ?_
    refine mX_br (t := 43) (f := 45) (ls' := [some (.ref 67), some (.int x2), some (.int x4), some (.int x6)]) (st' := []) (h' := h5) rfl ?_ ?_
    · refine mX_to 1 (k' := 44) (ls' := [some (.ref 67), some (.int x2), some (.int x4), some (.int x6)]) (st' := [.int 0]) (h' := h5) rfl ?_
      exact mX_retb (by decide) rfl
    · refine mX_to 2 (k' := 47) (ls' := [some (.ref 67), some (.int x2), some (.int x4), some (.int x6)]) (st' := [.int 1, .ref 67]) (h' := h5) rfl ?_
      refine mX_ckct (m := mcl (mE mtab d 118 [.ref 67, .int 1] h5) 0 48 [some (.ref 67), some (.int x2), some (.int x4), some (.int x6)] []) (k_67 L5) rfl ?_
      refine mk_cVe (o := F_X11_settle d 1 h5) ?_
      intro wh7 h7 eh7
      have L7 : lay h7 := lay_call d 118 [.ref 67, .int 1] h5 _ h7 rfl eh7 L5
      refine mX_to 1 (k' := 49) (ls' := [some (.ref 67), some (.int x2), some (.int x4), some (.int x6)]) (st' := [.ref 67]) (h' := h7) rfl ?_
      refine mX_ckct (m := mcl (mE mtab d 100 [.ref 67] h7) 0 50 [some (.ref 67), some (.int x2), some (.int x4), some (.int x6)] []) (k_67 L7) rfl ?_
      refine mk_cVe (o := F_X11_nextToken d h7) ?_
      intro wh8 h8 eh8
      have L8 : lay h8 := lay_call d 100 [.ref 67] h7 _ h8 rfl eh8 L7
      refine mX_to 1 (k' := 51) (ls' := [some (.ref 67), some (.int x2), some (.int x4), some (.int x6)]) (st' := [.int x6]) (h' := h8) rfl ?_
      refine mX_br (t := 63) (f := 52) (ls' := [some (.ref 67), some (.int x2), some (.int x4), some (.int x6)]) (st' := []) (h' := h8) rfl ?_ ?_
      · refine mX_to 2 (k' := 65) (ls' := [some (.ref 67), some (.int x2), some (.int x4), some (.int x6)]) (st' := [.ref 67, .ref 67]) (h' := h8) rfl ?_
        refine mX_ckv (v := .int (gI h8 67 17)) (v' := .int (gI h8 67 17)) (k' := 66) (ls' := [some (.ref 67), some (.int x2), some (.int x4), some (.int x6)]) (st' := [.ref 67]) (h' := h8) (k_67 L8) rfl rfl ?_
        refine mX_to 2 (k' := 68) (ls' := [some (.ref 67), some (.int x2), some (.int x4), some (.int x6)]) (st' := [.int ((gI h8 67 17) - 1), .ref 67]) (h' := h8) rfl ?_
        refine mX_ckt (k' := 69) (ls' := [some (.ref 67), some (.int x2), some (.int x4), some (.int x6)]) (st' := []) (h' := (sI h8 67 17 ((gI h8 67 17) - 1))) (k_67 L8) rfl ?_
        refine lt_geq2 (X := fun h10 : MH => mX (mE mtab d) KX11_behindOne 69 [some (.ref 67), some (.int x2), some (.int x4), some (.int x6)] [] h10) (a := (sI h8 67 17 ((gI h8 67 17) - 1))) (a' := (sI h8 67 17 ((gI h8 67 17) - 1))) rfl fun h10 eh10 => ?_
        have L10 : lay h10 := eh10 ▸ layI L8 (by decide)
        refine mX_to 2 (k' := 71) (ls' := [some (.ref 67), some (.int x2), some (.int x4), some (.int x6)]) (st' := [.ref 67, .ref 67]) (h' := h10) rfl ?_
        refine mX_ckv (v := .int (gI h10 67 16)) (v' := .int (gI h10 67 16)) (k' := 72) (ls' := [some (.ref 67), some (.int x2), some (.int x4), some (.int x6)]) (st' := [.ref 67]) (h' := h10) (k_67 L10) rfl rfl ?_
        refine mX_to 2 (k' := 74) (ls' := [some (.ref 67), some (.int x2), some (.int x4), some (.int x6)]) (st' := [.int ((gI h10 67 16) - 1), .ref 67]) (h' := h10) rfl ?_
        refine mX_ckt (k' := 75) (ls' := [some (.ref 67), some (.int x2), some (.int x4), some (.int x6)]) (st' := []) (h' := (sI h10 67 16 ((gI h10 67 16) - 1))) (k_67 L10) rfl ?_
        refine lt_geq2 (X := fun h12 : MH => mX (mE mtab d) KX11_behindOne 75 [some (.ref 67), some (.int x2), some (.int x4), some (.int x6)] [] h12) (a := (sI h10 67 16 ((gI h10 67 16) - 1))) (a' := (sI h10 67 16 ((gI h10 67 16) - 1))) rfl fun h12 eh12 => ?_
        have L12 : lay h12 := eh12 ▸ layI L10 (by decide)
        refine mX_to 2 (k' := 77) (ls' := [some (.ref 67), some (.int x2), some (.int x4), some (.int x6)]) (st' := [.int 43, .int x4]) (h' := h12) rfl ?_
        refine mX_br (t := 78) (f := 82) (ls' := [some (.ref 67), some (.int x2), some (.int x4), some (.int x6)]) (st' := []) (h' := h12) rfl ?_ ?_
        · refine mX_to 3 (k' := 81) (ls' := [some (.ref 67), some (.int x2), some (.int x4), some (.int x6)]) (st' := [.int 0, .int 3, .ref 67]) (h' := h12) rfl ?_
          refine mX_ckct (m := mcl (mE mtab d 117 [.ref 67, .int 3, .int 0] h12) 0 82 [some (.ref 67), some (.int x2), some (.int x4), some (.int x6)] []) (k_67 L12) rfl ?_
          refine mk_cVe (o := F_X11_emit d 3 0 h12) ?_
          intro wh13 h13 eh13
          have L13 : lay h13 := lay_call d 117 [.ref 67, .int 3, .int 0] h12 _ h13 rfl eh13 L12
          rfl
        · rfl
      · refine mX_to 1 (k' := 53) (ls' := [some (.ref 67), some (.int x2), some (.int x4), some (.int x6)]) (st' := [.ref 67]) (h' := h8) rfl ?_
        refine mX_ckv (v := .ref (gR h8 67 15)) (v' := .ref 72) (k' := 54) (ls' := [some (.ref 67), some (.int x2), some (.int x4), some (.int x6)]) (st' := []) (h' := h8) (k_67 L8) (congrArg Value.ref (r_67_15 L8)) rfl ?_
        refine mX_to 1 (k' := 55) (ls' := [some (.ref 67), some (.int x2), some (.int x4), some (.int x6)]) (st' := [.ref 67, .ref 72]) (h' := h8) rfl ?_
        refine mX_ckct (m := mcl (mE mtab d 111 [.ref 67] h8) 1 56 [some (.ref 67), some (.int x2), some (.int x4), some (.int x6)] [.ref 72]) (k_67 L8) rfl ?_
        refine mk_cIe (o := F_X11_openAt d h8) ?_
        intro x15 h14 eh14
        have L14 : lay h14 := lay_call d 111 [.ref 67] h8 _ h14 rfl eh14 L8
        refine mX_to 1 (k' := 57) (ls' := [some (.ref 67), some (.int x2), some (.int x4), some (.int x6)]) (st' := [.int x6, .int x15, .ref 72]) (h' := h14) rfl ?_
        refine mX_cki (k' := 58) (ls' := [some (.ref 67), some (.int x2), some (.int x4), some (.int x6)]) (st' := []) (h' := (sI h14 72 (ix x15) x6)) (ckA0 (k_72 L14) (n_72 L14)) rfl fun c16 => ?_
        refine lt_geq2 (X := fun h17 : MH => mX (mE mtab d) KX11_behindOne 58 [some (.ref 67), some (.int x2), some (.int x4), some (.int x6)] [] h17) (a := (sI h14 72 (ix x15) x6)) (a' := (sI h14 72 (ix x15) x6)) rfl fun h17 eh17 => ?_
        have L17 : lay h17 := eh17 ▸ layI L14 (by decide)
        refine mX_to 2 (k' := 60) (ls' := [some (.ref 67), some (.int x2), some (.int x4), some (.int x6)]) (st' := [.int 0, .ref 67]) (h' := h17) rfl ?_
        refine mX_ckt (k' := 61) (ls' := [some (.ref 67), some (.int x2), some (.int x4), some (.int x6)]) (st' := []) (h' := (sI h17 67 18 0)) ⟨(k_67 L17), by decide⟩ rfl ?_
        refine lt_geq2 (X := fun h19 : MH => mX (mE mtab d) KX11_behindOne 61 [some (.ref 67), some (.int x2), some (.int x4), some (.int x6)] [] h19) (a := (sI h17 67 18 0)) (a' := (sI h17 67 18 0)) rfl fun h19 eh19 => ?_
        have L19 : lay h19 := eh19 ▸ layI L17 (by decide)
        refine mX_to 1 (k' := 62) (ls' := [some (.ref 67), some (.int x2), some (.int x4), some (.int x6)]) (st' := [.int 1]) (h' := h19) rfl ?_
        exact mX_retb (by decide) rfl
  · refine mX_to 2 (k' := 7) (ls' := [some (.ref 67), some (.int x2), none, none]) (st' := [.int x2, .ref 67]) (h' := h1) rfl ?_
    refine mX_cIe (o := F_X11_rank d x2 h1) (k' := 8) (ls' := [some (.ref 67), some (.int x2), none, none]) (st' := [.ref 67]) rfl ?_
    intro x21 h20 eh20
    have L20 : lay h20 := lay_call d 113 [.int x2] h1 _ h20 rfl eh20 L1
    refine mX_to 1 (k' := 9) (ls' := [some (.ref 67), some (.int x2), none, none]) (st' := [.int 4, .int x21, .ref 67]) (h' := h20) rfl ?_
    refine mX_br (t := 10) (f := 12) (ls' := [some (.ref 67), some (.int x2), none, none]) (st' := [.ref 67]) (h' := h20) rfl ?_ ?_
    · refine mX_to 2 (k' := 14) (ls' := [some (.ref 67), some (.int x2), none, none]) (st' := [.int 5, .ref 67]) (h' := h20) rfl ?_
      rfl
    · refine mX_to 1 (k' := 13) (ls' := [some (.ref 67), some (.int x2), none, none]) (st' := [.int x2, .ref 67]) (h' := h20) rfl ?_
      refine mX_cIe (o := F_X11_rank d x2 h20) (k' := 14) (ls' := [some (.ref 67), some (.int x2), none, none]) (st' := [.ref 67]) rfl ?_
      intro x23 h22 eh22
      have L22 : lay h22 := lay_call d 113 [.int x2] h20 _ h22 rfl eh22 L20
      rfl
theorem S_X11_nameOf {h : MH} (L : lay h) (d : Nat) : F_X11_nameOf (d + 1) h = (if (gI h 67 9) = 2 then cL (F_X11_w4 d 104 111 117 114 h) (fun x2 h1 => (if (lg_cmp (gL h 67 11) x2) = 0 then some (.int 0, h1) else cL (F_X11_w3 d 116 105 112 h1) (fun x4 h3 => (if (lg_cmp (gL h1 67 11) x4) = 0 then some (.int 1, h3) else cL (F_X11_w3 d 97 108 108 h3) (fun x6 h5 => (if (lg_cmp (gL h3 67 11) x6) = 0 then some (.int 2, h5) else cL (F_X11_w4 d 115 110 111 119 h5) (fun x8 h7 => (if (lg_cmp (gL h5 67 11) x8) = 0 then some (.int 3, h7) else cL (F_X11_w3 d 119 104 111 h7) (fun x10 h9 => (if (lg_cmp (gL h7 67 11) x10) = 0 then some (.int 4, h9) else cL (F_X11_w6 d 119 101 105 103 104 116 h9) (fun x12 h11 => (if (lg_cmp (gL h9 67 11) x12) = 0 then some (.int 5, h11) else cL (F_X11_w5 d 112 108 97 99 101 h11) (fun x14 h13 => (if (lg_cmp (gL h11 67 11) x14) = 0 then some (.int 6, h13) else some (.int (-1), h13))))))))))))))) else some (.int (-1), h)) := by
  refine mE_eq (q := (yX11_nameOf, cX11_nameOf, 1, (some .int), KX11_nameOf)) (C := KX11_nameOf) (ls := [some (.ref 67)]) rfl rfl rfl rfl ?_
  refine mX_to 1 (k' := 1) (ls' := [some (.ref 67)]) (st' := [.ref 67]) (h' := h) rfl ?_
  refine mX_ckv (v := .int (gI h 67 9)) (v' := .int (gI h 67 9)) (k' := 2) (ls' := [some (.ref 67)]) (st' := []) (h' := h) (k_67 L) rfl rfl ?_
  refine mX_to 1 (k' := 3) (ls' := [some (.ref 67)]) (st' := [.int 2, .int (gI h 67 9)]) (h' := h) rfl ?_
  refine mX_br (t := 6) (f := 4) (ls' := [some (.ref 67)]) (st' := []) (h' := h) rfl ?_ ?_
  · refine mX_to 1 (k' := 7) (ls' := [some (.ref 67)]) (st' := [.ref 67]) (h' := h) rfl ?_
    refine mX_ckv (v := .long (gL h 67 11)) (v' := .long (gL h 67 11)) (k' := 8) (ls' := [some (.ref 67)]) (st' := []) (h' := h) (k_67 L) rfl rfl ?_
    refine mX_to 4 (k' := 12) (ls' := [some (.ref 67)]) (st' := [.int 114, .int 117, .int 111, .int 104, .long (gL h 67 11)]) (h' := h) rfl ?_
    refine mX_cLe (o := F_X11_w4 d 104 111 117 114 h) (k' := 13) (ls' := [some (.ref 67)]) (st' := [.long (gL h 67 11)]) rfl ?_
    intro x2 h1 eh1
    have L1 : lay h1 := lay_call d 103 [.int 104, .int 111, .int 117, .int 114] h _ h1 rfl eh1 L
    refine mX_to 1 (k' := 14) (ls' := [some (.ref 67)]) (st' := [.int (lg_cmp (gL h 67 11) x2)]) (h' := h1) rfl ?_
    refine mX_br (t := 15) (f := 17) (ls' := [some (.ref 67)]) (st' := []) (h' := h1) rfl ?_ ?_
    · refine mX_to 1 (k' := 16) (ls' := [some (.ref 67)]) (st' := [.int 0]) (h' := h1) rfl ?_
      exact mX_reti rfl
    · refine mX_to 1 (k' := 18) (ls' := [some (.ref 67)]) (st' := [.ref 67]) (h' := h1) rfl ?_
      refine mX_ckv (v := .long (gL h1 67 11)) (v' := .long (gL h1 67 11)) (k' := 19) (ls' := [some (.ref 67)]) (st' := []) (h' := h1) (k_67 L1) rfl rfl ?_
      refine mX_to 3 (k' := 22) (ls' := [some (.ref 67)]) (st' := [.int 112, .int 105, .int 116, .long (gL h1 67 11)]) (h' := h1) rfl ?_
      refine mX_cLe (o := F_X11_w3 d 116 105 112 h1) (k' := 23) (ls' := [some (.ref 67)]) (st' := [.long (gL h1 67 11)]) rfl ?_
      intro x4 h3 eh3
      have L3 : lay h3 := lay_call d 102 [.int 116, .int 105, .int 112] h1 _ h3 rfl eh3 L1
      refine mX_to 1 (k' := 24) (ls' := [some (.ref 67)]) (st' := [.int (lg_cmp (gL h1 67 11) x4)]) (h' := h3) rfl ?_
      refine mX_br (t := 25) (f := 27) (ls' := [some (.ref 67)]) (st' := []) (h' := h3) rfl ?_ ?_
      · refine mX_to 1 (k' := 26) (ls' := [some (.ref 67)]) (st' := [.int 1]) (h' := h3) rfl ?_
        exact mX_reti rfl
      · refine mX_to 1 (k' := 28) (ls' := [some (.ref 67)]) (st' := [.ref 67]) (h' := h3) rfl ?_
        refine mX_ckv (v := .long (gL h3 67 11)) (v' := .long (gL h3 67 11)) (k' := 29) (ls' := [some (.ref 67)]) (st' := []) (h' := h3) (k_67 L3) rfl rfl ?_
        refine mX_to 3 (k' := 32) (ls' := [some (.ref 67)]) (st' := [.int 108, .int 108, .int 97, .long (gL h3 67 11)]) (h' := h3) rfl ?_
        refine mX_cLe (o := F_X11_w3 d 97 108 108 h3) (k' := 33) (ls' := [some (.ref 67)]) (st' := [.long (gL h3 67 11)]) rfl ?_
        intro x6 h5 eh5
        have L5 : lay h5 := lay_call d 102 [.int 97, .int 108, .int 108] h3 _ h5 rfl eh5 L3
        refine mX_to 1 (k' := 34) (ls' := [some (.ref 67)]) (st' := [.int (lg_cmp (gL h3 67 11) x6)]) (h' := h5) rfl ?_
        refine mX_br (t := 35) (f := 37) (ls' := [some (.ref 67)]) (st' := []) (h' := h5) rfl ?_ ?_
        · refine mX_to 1 (k' := 36) (ls' := [some (.ref 67)]) (st' := [.int 2]) (h' := h5) rfl ?_
          exact mX_reti rfl
        · refine mX_to 1 (k' := 38) (ls' := [some (.ref 67)]) (st' := [.ref 67]) (h' := h5) rfl ?_
          refine mX_ckv (v := .long (gL h5 67 11)) (v' := .long (gL h5 67 11)) (k' := 39) (ls' := [some (.ref 67)]) (st' := []) (h' := h5) (k_67 L5) rfl rfl ?_
          refine mX_to 4 (k' := 43) (ls' := [some (.ref 67)]) (st' := [.int 119, .int 111, .int 110, .int 115, .long (gL h5 67 11)]) (h' := h5) rfl ?_
          refine mX_cLe (o := F_X11_w4 d 115 110 111 119 h5) (k' := 44) (ls' := [some (.ref 67)]) (st' := [.long (gL h5 67 11)]) rfl ?_
          intro x8 h7 eh7
          have L7 : lay h7 := lay_call d 103 [.int 115, .int 110, .int 111, .int 119] h5 _ h7 rfl eh7 L5
          refine mX_to 1 (k' := 45) (ls' := [some (.ref 67)]) (st' := [.int (lg_cmp (gL h5 67 11) x8)]) (h' := h7) rfl ?_
          refine mX_br (t := 46) (f := 48) (ls' := [some (.ref 67)]) (st' := []) (h' := h7) rfl ?_ ?_
          · refine mX_to 1 (k' := 47) (ls' := [some (.ref 67)]) (st' := [.int 3]) (h' := h7) rfl ?_
            exact mX_reti rfl
          · refine mX_to 1 (k' := 49) (ls' := [some (.ref 67)]) (st' := [.ref 67]) (h' := h7) rfl ?_
            refine mX_ckv (v := .long (gL h7 67 11)) (v' := .long (gL h7 67 11)) (k' := 50) (ls' := [some (.ref 67)]) (st' := []) (h' := h7) (k_67 L7) rfl rfl ?_
            refine mX_to 3 (k' := 53) (ls' := [some (.ref 67)]) (st' := [.int 111, .int 104, .int 119, .long (gL h7 67 11)]) (h' := h7) rfl ?_
            refine mX_cLe (o := F_X11_w3 d 119 104 111 h7) (k' := 54) (ls' := [some (.ref 67)]) (st' := [.long (gL h7 67 11)]) rfl ?_
            intro x10 h9 eh9
            have L9 : lay h9 := lay_call d 102 [.int 119, .int 104, .int 111] h7 _ h9 rfl eh9 L7
            refine mX_to 1 (k' := 55) (ls' := [some (.ref 67)]) (st' := [.int (lg_cmp (gL h7 67 11) x10)]) (h' := h9) rfl ?_
            refine mX_br (t := 56) (f := 58) (ls' := [some (.ref 67)]) (st' := []) (h' := h9) rfl ?_ ?_
            · refine mX_to 1 (k' := 57) (ls' := [some (.ref 67)]) (st' := [.int 4]) (h' := h9) rfl ?_
              exact mX_reti rfl
            · refine mX_to 1 (k' := 59) (ls' := [some (.ref 67)]) (st' := [.ref 67]) (h' := h9) rfl ?_
              refine mX_ckv (v := .long (gL h9 67 11)) (v' := .long (gL h9 67 11)) (k' := 60) (ls' := [some (.ref 67)]) (st' := []) (h' := h9) (k_67 L9) rfl rfl ?_
              refine mX_to 6 (k' := 66) (ls' := [some (.ref 67)]) (st' := [.int 116, .int 104, .int 103, .int 105, .int 101, .int 119, .long (gL h9 67 11)]) (h' := h9) rfl ?_
              refine mX_cLe (o := F_X11_w6 d 119 101 105 103 104 116 h9) (k' := 67) (ls' := [some (.ref 67)]) (st' := [.long (gL h9 67 11)]) rfl ?_
              intro x12 h11 eh11
              have L11 : lay h11 := lay_call d 106 [.int 119, .int 101, .int 105, .int 103, .int 104, .int 116] h9 _ h11 rfl eh11 L9
              refine mX_to 1 (k' := 68) (ls' := [some (.ref 67)]) (st' := [.int (lg_cmp (gL h9 67 11) x12)]) (h' := h11) rfl ?_
              refine mX_br (t := 69) (f := 71) (ls' := [some (.ref 67)]) (st' := []) (h' := h11) rfl ?_ ?_
              · refine mX_to 2 (k' := 84) (ls' := [some (.ref 67)]) (st' := [.int 5]) (h' := h11) rfl ?_
                exact mX_reti rfl
              · refine mX_to 1 (k' := 72) (ls' := [some (.ref 67)]) (st' := [.ref 67]) (h' := h11) rfl ?_
                refine mX_ckv (v := .long (gL h11 67 11)) (v' := .long (gL h11 67 11)) (k' := 73) (ls' := [some (.ref 67)]) (st' := []) (h' := h11) (k_67 L11) rfl rfl ?_
                refine mX_to 5 (k' := 78) (ls' := [some (.ref 67)]) (st' := [.int 101, .int 99, .int 97, .int 108, .int 112, .long (gL h11 67 11)]) (h' := h11) rfl ?_
                refine mX_cLe (o := F_X11_w5 d 112 108 97 99 101 h11) (k' := 79) (ls' := [some (.ref 67)]) (st' := [.long (gL h11 67 11)]) rfl ?_
                intro x14 h13 eh13
                have L13 : lay h13 := lay_call d 105 [.int 112, .int 108, .int 97, .int 99, .int 101] h11 _ h13 rfl eh13 L11
                refine mX_to 1 (k' := 80) (ls' := [some (.ref 67)]) (st' := [.int (lg_cmp (gL h11 67 11) x14)]) (h' := h13) rfl ?_
                refine mX_br (t := 81) (f := 83) (ls' := [some (.ref 67)]) (st' := []) (h' := h13) rfl ?_ ?_
                · refine mX_to 2 (k' := 84) (ls' := [some (.ref 67)]) (st' := [.int 6]) (h' := h13) rfl ?_
                  exact mX_reti rfl
                · refine mX_to 1 (k' := 84) (ls' := [some (.ref 67)]) (st' := [.int (-1)]) (h' := h13) rfl ?_
                  exact mX_reti rfl
  · refine mX_to 1 (k' := 5) (ls' := [some (.ref 67)]) (st' := [.int (-1)]) (h' := h) rfl ?_
    exact mX_reti rfl
theorem S_X11_opened {h : MH} (L : lay h) (d : Nat) (a1 : Int32) : F_X11_opened (d + 1) a1 h = (if (gI h 67 17) = 8 then some (.int 3, h) else lt_ (sI h 67 17 ((gI h 67 17) + 1)) fun h2 => ck (ib (gI h2 67 16) 160) (lt_ (sI h2 72 (ix (gI h2 67 16)) a1) fun h4 => lt_ (sI h4 67 16 ((gI h4 67 16) + 1)) fun h6 => cV (F_X11_nextToken d h6) (fun h7 => some (.int 0, h7)))) := by
  refine mE_eq (q := (yX11_opened, cX11_opened, 2, (some .int), KX11_opened)) (C := KX11_opened) (ls := [some (.ref 67), some (.int a1)]) rfl rfl rfl rfl ?_
  refine mX_to 1 (k' := 1) (ls' := [some (.ref 67), some (.int a1)]) (st' := [.ref 67]) (h' := h) rfl ?_
  refine mX_ckv (v := .int (gI h 67 17)) (v' := .int (gI h 67 17)) (k' := 2) (ls' := [some (.ref 67), some (.int a1)]) (st' := []) (h' := h) (k_67 L) rfl rfl ?_
  refine mX_to 1 (k' := 3) (ls' := [some (.ref 67), some (.int a1)]) (st' := [.int 8, .int (gI h 67 17)]) (h' := h) rfl ?_
  refine mX_br (t := 4) (f := 6) (ls' := [some (.ref 67), some (.int a1)]) (st' := []) (h' := h) rfl ?_ ?_
  · refine mX_to 1 (k' := 5) (ls' := [some (.ref 67), some (.int a1)]) (st' := [.int 3]) (h' := h) rfl ?_
    exact mX_reti rfl
  · refine mX_to 2 (k' := 8) (ls' := [some (.ref 67), some (.int a1)]) (st' := [.ref 67, .ref 67]) (h' := h) rfl ?_
    refine mX_ckv (v := .int (gI h 67 17)) (v' := .int (gI h 67 17)) (k' := 9) (ls' := [some (.ref 67), some (.int a1)]) (st' := [.ref 67]) (h' := h) (k_67 L) rfl rfl ?_
    refine mX_to 2 (k' := 11) (ls' := [some (.ref 67), some (.int a1)]) (st' := [.int ((gI h 67 17) + 1), .ref 67]) (h' := h) rfl ?_
    refine mX_ckt (k' := 12) (ls' := [some (.ref 67), some (.int a1)]) (st' := []) (h' := (sI h 67 17 ((gI h 67 17) + 1))) (k_67 L) rfl ?_
    refine lt_geq2 (X := fun h2 : MH => mX (mE mtab d) KX11_opened 12 [some (.ref 67), some (.int a1)] [] h2) (a := (sI h 67 17 ((gI h 67 17) + 1))) (a' := (sI h 67 17 ((gI h 67 17) + 1))) rfl fun h2 eh2 => ?_
    have L2 : lay h2 := eh2 ▸ layI L (by decide)
    refine mX_to 1 (k' := 13) (ls' := [some (.ref 67), some (.int a1)]) (st' := [.ref 67]) (h' := h2) rfl ?_
    refine mX_ckv (v := .ref (gR h2 67 15)) (v' := .ref 72) (k' := 14) (ls' := [some (.ref 67), some (.int a1)]) (st' := []) (h' := h2) (k_67 L2) (congrArg Value.ref (r_67_15 L2)) rfl ?_
    refine mX_to 1 (k' := 15) (ls' := [some (.ref 67), some (.int a1)]) (st' := [.ref 67, .ref 72]) (h' := h2) rfl ?_
    refine mX_ckv (v := .int (gI h2 67 16)) (v' := .int (gI h2 67 16)) (k' := 16) (ls' := [some (.ref 67), some (.int a1)]) (st' := [.ref 72]) (h' := h2) (k_67 L2) rfl rfl ?_
    refine mX_to 1 (k' := 17) (ls' := [some (.ref 67), some (.int a1)]) (st' := [.int a1, .int (gI h2 67 16), .ref 72]) (h' := h2) rfl ?_
    refine mX_cki (k' := 18) (ls' := [some (.ref 67), some (.int a1)]) (st' := []) (h' := (sI h2 72 (ix (gI h2 67 16)) a1)) (ckA0 (k_72 L2) (n_72 L2)) rfl fun c3 => ?_
    refine lt_geq2 (X := fun h4 : MH => mX (mE mtab d) KX11_opened 18 [some (.ref 67), some (.int a1)] [] h4) (a := (sI h2 72 (ix (gI h2 67 16)) a1)) (a' := (sI h2 72 (ix (gI h2 67 16)) a1)) rfl fun h4 eh4 => ?_
    have L4 : lay h4 := eh4 ▸ layI L2 (by decide)
    refine mX_to 2 (k' := 20) (ls' := [some (.ref 67), some (.int a1)]) (st' := [.ref 67, .ref 67]) (h' := h4) rfl ?_
    refine mX_ckv (v := .int (gI h4 67 16)) (v' := .int (gI h4 67 16)) (k' := 21) (ls' := [some (.ref 67), some (.int a1)]) (st' := [.ref 67]) (h' := h4) (k_67 L4) rfl rfl ?_
    refine mX_to 2 (k' := 23) (ls' := [some (.ref 67), some (.int a1)]) (st' := [.int ((gI h4 67 16) + 1), .ref 67]) (h' := h4) rfl ?_
    refine mX_ckt (k' := 24) (ls' := [some (.ref 67), some (.int a1)]) (st' := []) (h' := (sI h4 67 16 ((gI h4 67 16) + 1))) (k_67 L4) rfl ?_
    refine lt_geq2 (X := fun h6 : MH => mX (mE mtab d) KX11_opened 24 [some (.ref 67), some (.int a1)] [] h6) (a := (sI h4 67 16 ((gI h4 67 16) + 1))) (a' := (sI h4 67 16 ((gI h4 67 16) + 1))) rfl fun h6 eh6 => ?_
    have L6 : lay h6 := eh6 ▸ layI L4 (by decide)
    refine mX_to 1 (k' := 25) (ls' := [some (.ref 67), some (.int a1)]) (st' := [.ref 67]) (h' := h6) rfl ?_
    refine mX_ckct (m := mcl (mE mtab d 100 [.ref 67] h6) 0 26 [some (.ref 67), some (.int a1)] []) (k_67 L6) rfl ?_
    refine mk_cVe (o := F_X11_nextToken d h6) ?_
    intro wh7 h7 eh7
    have L7 : lay h7 := lay_call d 100 [.ref 67] h6 _ h7 rfl eh7 L6
    refine mX_to 1 (k' := 27) (ls' := [some (.ref 67), some (.int a1)]) (st' := [.int 0]) (h' := h7) rfl ?_
    exact mX_reti rfl
theorem S_X11_isAskAhead {h : MH} (L : lay h) (d : Nat) : F_X11_isAskAhead (d + 1) h = cI (F_X11_openNow d h) (fun x2 h1 => (if x2 = 41 then ck (ib ((gI h1 67 16) - 1) 160) ((if (gI h1 72 (ix ((gI h1 67 16) - 1))) < 40 then ck (ib ((gI h1 67 16) - 1) 160) (cI (F_X11_rank d (gI h1 72 (ix ((gI h1 67 16) - 1))) h1) (fun x4 h3 => cI (F_X11_isIn d x4 1 3 h3) (fun x6 h5 => (if x6 = 0 then some (.int 0, h5) else some (.int 1, h5))))) else some (.int 1, h1))) else some (.int 0, h1))) := by
  refine mE_eq (q := (yX11_isAskAhead, cX11_isAskAhead, 1, (some .boolean), KX11_isAskAhead)) (C := KX11_isAskAhead) (ls := [some (.ref 67)]) rfl rfl rfl rfl ?_
  refine mX_to 1 (k' := 1) (ls' := [some (.ref 67)]) (st' := [.ref 67]) (h' := h) rfl ?_
  refine mX_ckct (m := mcl (mE mtab d 112 [.ref 67] h) 1 2 [some (.ref 67)] []) (k_67 L) rfl ?_
  refine mk_cIe (o := F_X11_openNow d h) ?_
  intro x2 h1 eh1
  have L1 : lay h1 := lay_call d 112 [.ref 67] h _ h1 rfl eh1 L
  refine mX_to 1 (k' := 3) (ls' := [some (.ref 67)]) (st' := [.int 41, .int x2]) (h' := h1) rfl ?_
  refine mX_br (t := 4) (f := 27) (ls' := [some (.ref 67)]) (st' := []) (h' := h1) rfl ?_ ?_
  · refine mX_to 1 (k' := 5) (ls' := [some (.ref 67)]) (st' := [.ref 67]) (h' := h1) rfl ?_
    refine mX_ckv (v := .ref (gR h1 67 15)) (v' := .ref 72) (k' := 6) (ls' := [some (.ref 67)]) (st' := []) (h' := h1) (k_67 L1) (congrArg Value.ref (r_67_15 L1)) rfl ?_
    refine mX_to 1 (k' := 7) (ls' := [some (.ref 67)]) (st' := [.ref 67, .ref 72]) (h' := h1) rfl ?_
    refine mX_ckv (v := .int (gI h1 67 16)) (v' := .int (gI h1 67 16)) (k' := 8) (ls' := [some (.ref 67)]) (st' := [.ref 72]) (h' := h1) (k_67 L1) rfl rfl ?_
    refine mX_to 2 (k' := 10) (ls' := [some (.ref 67)]) (st' := [.int ((gI h1 67 16) - 1), .ref 72]) (h' := h1) rfl ?_
    refine mX_ckw (v := .int (gI h1 72 (ix ((gI h1 67 16) - 1)))) (v' := .int (gI h1 72 (ix ((gI h1 67 16) - 1)))) (k' := 11) (ls' := [some (.ref 67)]) (st' := []) (h' := h1) (ckA1 (k_72 L1) (n_72 L1)) rfl rfl fun c8 => ?_
    refine mX_to 1 (k' := 12) (ls' := [some (.ref 67)]) (st' := [.int 40, .int (gI h1 72 (ix ((gI h1 67 16) - 1)))]) (h' := h1) rfl ?_
    refine mX_br (t := 13) (f := 25) (ls' := [some (.ref 67)]) (st' := []) (h' := h1) rfl ?_ ?_
    · refine mX_to 1 (k' := 14) (ls' := [some (.ref 67)]) (st' := [.ref 67]) (h' := h1) rfl ?_
      refine mX_ckv (v := .ref (gR h1 67 15)) (v' := .ref 72) (k' := 15) (ls' := [some (.ref 67)]) (st' := []) (h' := h1) (k_67 L1) (congrArg Value.ref (r_67_15 L1)) rfl ?_
      refine mX_to 1 (k' := 16) (ls' := [some (.ref 67)]) (st' := [.ref 67, .ref 72]) (h' := h1) rfl ?_
      refine mX_ckv (v := .int (gI h1 67 16)) (v' := .int (gI h1 67 16)) (k' := 17) (ls' := [some (.ref 67)]) (st' := [.ref 72]) (h' := h1) (k_67 L1) rfl rfl ?_
      refine mX_to 2 (k' := 19) (ls' := [some (.ref 67)]) (st' := [.int ((gI h1 67 16) - 1), .ref 72]) (h' := h1) rfl ?_
      refine mX_ckw (v := .int (gI h1 72 (ix ((gI h1 67 16) - 1)))) (v' := .int (gI h1 72 (ix ((gI h1 67 16) - 1)))) (k' := 20) (ls' := [some (.ref 67)]) (st' := []) (h' := h1) (ckA1 (k_72 L1) (n_72 L1)) rfl rfl fun c7 => ?_
      refine mX_cIe (o := F_X11_rank d (gI h1 72 (ix ((gI h1 67 16) - 1))) h1) (k' := 21) (ls' := [some (.ref 67)]) (st' := []) rfl ?_
      intro x4 h3 eh3
      have L3 : lay h3 := lay_call d 113 [.int (gI h1 72 (ix ((gI h1 67 16) - 1)))] h1 _ h3 rfl eh3 L1
      refine mX_to 2 (k' := 23) (ls' := [some (.ref 67)]) (st' := [.int 3, .int 1, .int x4]) (h' := h3) rfl ?_
      refine mX_cIe (o := F_X11_isIn d x4 1 3 h3) (k' := 24) (ls' := [some (.ref 67)]) (st' := []) rfl ?_
      intro x6 h5 eh5
      have L5 : lay h5 := lay_call d 14 [.int x4, .int 1, .int 3] h3 _ h5 rfl eh5 L3
      refine mX_br (t := 27) (f := 25) (ls' := [some (.ref 67)]) (st' := []) (h' := h5) rfl ?_ ?_
      · refine mX_to 1 (k' := 28) (ls' := [some (.ref 67)]) (st' := [.int 0]) (h' := h5) rfl ?_
        exact mX_retb (by decide) rfl
      · refine mX_to 2 (k' := 28) (ls' := [some (.ref 67)]) (st' := [.int 1]) (h' := h5) rfl ?_
        exact mX_retb (by decide) rfl
    · refine mX_to 2 (k' := 28) (ls' := [some (.ref 67)]) (st' := [.int 1]) (h' := h1) rfl ?_
      exact mX_retb (by decide) rfl
  · refine mX_to 1 (k' := 28) (ls' := [some (.ref 67)]) (st' := [.int 0]) (h' := h1) rfl ?_
    exact mX_retb (by decide) rfl
theorem S_X11_beginOne_10 {h : MH} (L : lay h) (d : Nat) : G_X11_beginOne_10 d h = cI (F_X11_nameOf d h) (fun x2 h1 => (if x2 ≤ 3 then G_X11_beginOne_22 d x2 h1 else (if (gI h1 67 14) = 1 then G_X11_beginOne_22 d x2 h1 else some (.int 5, h1)))) := by
  refine mX_to 1 (k' := 11) (ls' := [some (.ref 67), none]) (st' := [.ref 67]) (h' := h) rfl ?_
  refine mX_ckct (m := mcl (mE mtab d 121 [.ref 67] h) 1 12 [some (.ref 67), none] []) (k_67 L) rfl ?_
  refine mk_cIe (o := F_X11_nameOf d h) ?_
  intro x2 h1 eh1
  have L1 : lay h1 := lay_call d 121 [.ref 67] h _ h1 rfl eh1 L
  refine mX_to 3 (k' := 15) (ls' := [some (.ref 67), some (.int x2)]) (st' := [.int 3, .int x2]) (h' := h1) rfl ?_
  refine mX_br (t := 22) (f := 16) (ls' := [some (.ref 67), some (.int x2)]) (st' := []) (h' := h1) rfl ?_ ?_
  · rfl
  · refine mX_to 1 (k' := 17) (ls' := [some (.ref 67), some (.int x2)]) (st' := [.ref 67]) (h' := h1) rfl ?_
    refine mX_ckv (v := .int (gI h1 67 14)) (v' := .int (gI h1 67 14)) (k' := 18) (ls' := [some (.ref 67), some (.int x2)]) (st' := []) (h' := h1) (k_67 L1) rfl rfl ?_
    refine mX_to 1 (k' := 19) (ls' := [some (.ref 67), some (.int x2)]) (st' := [.int 1, .int (gI h1 67 14)]) (h' := h1) rfl ?_
    refine mX_br (t := 22) (f := 20) (ls' := [some (.ref 67), some (.int x2)]) (st' := []) (h' := h1) rfl ?_ ?_
    · rfl
    · refine mX_to 1 (k' := 21) (ls' := [some (.ref 67), some (.int x2)]) (st' := [.int 5]) (h' := h1) rfl ?_
      exact mX_reti rfl
theorem S_X11_beginOne_22 {h : MH} (L : lay h) (d : Nat) (l1 : Int32) : G_X11_beginOne_22 d l1 h = (if (gI h 67 9) = 1 then G_X11_beginOne_28 d l1 h else (if l1 < 0 then (if (gI h 67 9) = 40 then cI (F_X11_opened d 40 h) (fun x4 h3 => some (.int x4, h3)) else (if (gI h 67 9) = 45 then cI (F_X11_opened d 5 h) (fun x6 h5 => some (.int x6, h5)) else cL (F_X11_w4 d 115 105 103 110 h) (fun x8 h7 => cI (F_X11_isWord d x8 h7) (fun x10 h9 => (if x10 = 0 then cL (F_X11_w4 d 108 111 97 100 h9) (fun x12 h11 => cI (F_X11_isWord d x12 h11) (fun x14 h13 => (if x14 = 0 then cL (F_X11_w2 d 105 102 h13) (fun x16 h15 => cI (F_X11_isWord d x16 h15) (fun x18 h17 => (if x18 = 0 then cL (F_X11_w3 d 110 111 116 h17) (fun x20 h19 => cI (F_X11_isWord d x20 h19) (fun x22 h21 => (if x22 = 0 then some (.int 1, h21) else cI (F_X11_isAskAhead d h21) (fun x24 h23 => (if x24 = 0 then some (.int 1, h23) else cI (F_X11_opened d 20 h23) (fun x26 h25 => some (.int x26, h25))))))) else cI (F_X11_opened d 41 h17) (fun x28 h27 => some (.int x28, h27))))) else cI (F_X11_opened d 2 h13) (fun x30 h29 => some (.int x30, h29))))) else cI (F_X11_opened d 4 h9) (fun x32 h31 => some (.int x32, h31))))))) else G_X11_beginOne_28 d l1 h)) := by
  refine mX_to 1 (k' := 23) (ls' := [some (.ref 67), some (.int l1)]) (st' := [.ref 67]) (h' := h) rfl ?_
  refine mX_ckv (v := .int (gI h 67 9)) (v' := .int (gI h 67 9)) (k' := 24) (ls' := [some (.ref 67), some (.int l1)]) (st' := []) (h' := h) (k_67 L) rfl rfl ?_
  refine mX_to 1 (k' := 25) (ls' := [some (.ref 67), some (.int l1)]) (st' := [.int 1, .int (gI h 67 9)]) (h' := h) rfl ?_
  refine mX_br (t := 28) (f := 26) (ls' := [some (.ref 67), some (.int l1)]) (st' := []) (h' := h) rfl ?_ ?_
  · rfl
  · refine mX_to 1 (k' := 27) (ls' := [some (.ref 67), some (.int l1)]) (st' := [.int l1]) (h' := h) rfl ?_
    refine mX_br (t := 55) (f := 28) (ls' := [some (.ref 67), some (.int l1)]) (st' := []) (h' := h) rfl ?_ ?_
    · refine mX_to 1 (k' := 56) (ls' := [some (.ref 67), some (.int l1)]) (st' := [.ref 67]) (h' := h) rfl ?_
      refine mX_ckv (v := .int (gI h 67 9)) (v' := .int (gI h 67 9)) (k' := 57) (ls' := [some (.ref 67), some (.int l1)]) (st' := []) (h' := h) (k_67 L) rfl rfl ?_
      refine mX_to 1 (k' := 58) (ls' := [some (.ref 67), some (.int l1)]) (st' := [.int 40, .int (gI h 67 9)]) (h' := h) rfl ?_
      refine mX_br (t := 59) (f := 63) (ls' := [some (.ref 67), some (.int l1)]) (st' := []) (h' := h) rfl ?_ ?_
      · refine mX_to 2 (k' := 61) (ls' := [some (.ref 67), some (.int l1)]) (st' := [.int 40, .ref 67]) (h' := h) rfl ?_
        refine mX_ckct (m := mcl (mE mtab d 122 [.ref 67, .int 40] h) 1 62 [some (.ref 67), some (.int l1)] []) (k_67 L) rfl ?_
        refine mk_cIe (o := F_X11_opened d 40 h) ?_
        intro x4 h3 eh3
        have L3 : lay h3 := lay_call d 122 [.ref 67, .int 40] h _ h3 rfl eh3 L
        exact mX_reti rfl
      · refine mX_to 1 (k' := 64) (ls' := [some (.ref 67), some (.int l1)]) (st' := [.ref 67]) (h' := h) rfl ?_
        refine mX_ckv (v := .int (gI h 67 9)) (v' := .int (gI h 67 9)) (k' := 65) (ls' := [some (.ref 67), some (.int l1)]) (st' := []) (h' := h) (k_67 L) rfl rfl ?_
        refine mX_to 1 (k' := 66) (ls' := [some (.ref 67), some (.int l1)]) (st' := [.int 45, .int (gI h 67 9)]) (h' := h) rfl ?_
        refine mX_br (t := 67) (f := 71) (ls' := [some (.ref 67), some (.int l1)]) (st' := []) (h' := h) rfl ?_ ?_
        · refine mX_to 2 (k' := 69) (ls' := [some (.ref 67), some (.int l1)]) (st' := [.int 5, .ref 67]) (h' := h) rfl ?_
          refine mX_ckct (m := mcl (mE mtab d 122 [.ref 67, .int 5] h) 1 70 [some (.ref 67), some (.int l1)] []) (k_67 L) rfl ?_
          refine mk_cIe (o := F_X11_opened d 5 h) ?_
          intro x6 h5 eh5
          have L5 : lay h5 := lay_call d 122 [.ref 67, .int 5] h _ h5 rfl eh5 L
          exact mX_reti rfl
        · refine mX_to 5 (k' := 76) (ls' := [some (.ref 67), some (.int l1)]) (st' := [.int 110, .int 103, .int 105, .int 115, .ref 67]) (h' := h) rfl ?_
          refine mX_cLe (o := F_X11_w4 d 115 105 103 110 h) (k' := 77) (ls' := [some (.ref 67), some (.int l1)]) (st' := [.ref 67]) rfl ?_
          intro x8 h7 eh7
          have L7 : lay h7 := lay_call d 103 [.int 115, .int 105, .int 103, .int 110] h _ h7 rfl eh7 L
          refine mX_ckct (m := mcl (mE mtab d 104 [.ref 67, .long x8] h7) 1 78 [some (.ref 67), some (.int l1)] []) (k_67 L7) rfl ?_
          refine mk_cIe (o := F_X11_isWord d x8 h7) ?_
          intro x10 h9 eh9
          have L9 : lay h9 := lay_call d 104 [.ref 67, .long x8] h7 _ h9 rfl eh9 L7
          refine mX_br (t := 83) (f := 79) (ls' := [some (.ref 67), some (.int l1)]) (st' := []) (h' := h9) rfl ?_ ?_
          · refine mX_to 5 (k' := 88) (ls' := [some (.ref 67), some (.int l1)]) (st' := [.int 100, .int 97, .int 111, .int 108, .ref 67]) (h' := h9) rfl ?_
            refine mX_cLe (o := F_X11_w4 d 108 111 97 100 h9) (k' := 89) (ls' := [some (.ref 67), some (.int l1)]) (st' := [.ref 67]) rfl ?_
            intro x12 h11 eh11
            have L11 : lay h11 := lay_call d 103 [.int 108, .int 111, .int 97, .int 100] h9 _ h11 rfl eh11 L9
            refine mX_ckct (m := mcl (mE mtab d 104 [.ref 67, .long x12] h11) 1 90 [some (.ref 67), some (.int l1)] []) (k_67 L11) rfl ?_
            refine mk_cIe (o := F_X11_isWord d x12 h11) ?_
            intro x14 h13 eh13
            have L13 : lay h13 := lay_call d 104 [.ref 67, .long x12] h11 _ h13 rfl eh13 L11
            refine mX_br (t := 95) (f := 91) (ls' := [some (.ref 67), some (.int l1)]) (st' := []) (h' := h13) rfl ?_ ?_
            · refine mX_to 3 (k' := 98) (ls' := [some (.ref 67), some (.int l1)]) (st' := [.int 102, .int 105, .ref 67]) (h' := h13) rfl ?_
              refine mX_cLe (o := F_X11_w2 d 105 102 h13) (k' := 99) (ls' := [some (.ref 67), some (.int l1)]) (st' := [.ref 67]) rfl ?_
              intro x16 h15 eh15
              have L15 : lay h15 := lay_call d 101 [.int 105, .int 102] h13 _ h15 rfl eh15 L13
              refine mX_ckct (m := mcl (mE mtab d 104 [.ref 67, .long x16] h15) 1 100 [some (.ref 67), some (.int l1)] []) (k_67 L15) rfl ?_
              refine mk_cIe (o := F_X11_isWord d x16 h15) ?_
              intro x18 h17 eh17
              have L17 : lay h17 := lay_call d 104 [.ref 67, .long x16] h15 _ h17 rfl eh17 L15
              refine mX_br (t := 105) (f := 101) (ls' := [some (.ref 67), some (.int l1)]) (st' := []) (h' := h17) rfl ?_ ?_
              · refine mX_to 4 (k' := 109) (ls' := [some (.ref 67), some (.int l1)]) (st' := [.int 116, .int 111, .int 110, .ref 67]) (h' := h17) rfl ?_
                refine mX_cLe (o := F_X11_w3 d 110 111 116 h17) (k' := 110) (ls' := [some (.ref 67), some (.int l1)]) (st' := [.ref 67]) rfl ?_
                intro x20 h19 eh19
                have L19 : lay h19 := lay_call d 102 [.int 110, .int 111, .int 116] h17 _ h19 rfl eh19 L17
                refine mX_ckct (m := mcl (mE mtab d 104 [.ref 67, .long x20] h19) 1 111 [some (.ref 67), some (.int l1)] []) (k_67 L19) rfl ?_
                refine mk_cIe (o := F_X11_isWord d x20 h19) ?_
                intro x22 h21 eh21
                have L21 : lay h21 := lay_call d 104 [.ref 67, .long x20] h19 _ h21 rfl eh21 L19
                refine mX_br (t := 119) (f := 112) (ls' := [some (.ref 67), some (.int l1)]) (st' := []) (h' := h21) rfl ?_ ?_
                · refine mX_to 1 (k' := 120) (ls' := [some (.ref 67), some (.int l1)]) (st' := [.int 1]) (h' := h21) rfl ?_
                  exact mX_reti rfl
                · refine mX_to 1 (k' := 113) (ls' := [some (.ref 67), some (.int l1)]) (st' := [.ref 67]) (h' := h21) rfl ?_
                  refine mX_ckct (m := mcl (mE mtab d 123 [.ref 67] h21) 1 114 [some (.ref 67), some (.int l1)] []) (k_67 L21) rfl ?_
                  refine mk_cIe (o := F_X11_isAskAhead d h21) ?_
                  intro x24 h23 eh23
                  have L23 : lay h23 := lay_call d 123 [.ref 67] h21 _ h23 rfl eh23 L21
                  refine mX_br (t := 119) (f := 115) (ls' := [some (.ref 67), some (.int l1)]) (st' := []) (h' := h23) rfl ?_ ?_
                  · refine mX_to 1 (k' := 120) (ls' := [some (.ref 67), some (.int l1)]) (st' := [.int 1]) (h' := h23) rfl ?_
                    exact mX_reti rfl
                  · refine mX_to 2 (k' := 117) (ls' := [some (.ref 67), some (.int l1)]) (st' := [.int 20, .ref 67]) (h' := h23) rfl ?_
                    refine mX_ckct (m := mcl (mE mtab d 122 [.ref 67, .int 20] h23) 1 118 [some (.ref 67), some (.int l1)] []) (k_67 L23) rfl ?_
                    refine mk_cIe (o := F_X11_opened d 20 h23) ?_
                    intro x26 h25 eh25
                    have L25 : lay h25 := lay_call d 122 [.ref 67, .int 20] h23 _ h25 rfl eh25 L23
                    refine mX_to 1 (k' := 120) (ls' := [some (.ref 67), some (.int l1)]) (st' := [.int x26]) (h' := h25) rfl ?_
                    exact mX_reti rfl
              · refine mX_to 2 (k' := 103) (ls' := [some (.ref 67), some (.int l1)]) (st' := [.int 41, .ref 67]) (h' := h17) rfl ?_
                refine mX_ckct (m := mcl (mE mtab d 122 [.ref 67, .int 41] h17) 1 104 [some (.ref 67), some (.int l1)] []) (k_67 L17) rfl ?_
                refine mk_cIe (o := F_X11_opened d 41 h17) ?_
                intro x28 h27 eh27
                have L27 : lay h27 := lay_call d 122 [.ref 67, .int 41] h17 _ h27 rfl eh27 L17
                exact mX_reti rfl
            · refine mX_to 2 (k' := 93) (ls' := [some (.ref 67), some (.int l1)]) (st' := [.int 2, .ref 67]) (h' := h13) rfl ?_
              refine mX_ckct (m := mcl (mE mtab d 122 [.ref 67, .int 2] h13) 1 94 [some (.ref 67), some (.int l1)] []) (k_67 L13) rfl ?_
              refine mk_cIe (o := F_X11_opened d 2 h13) ?_
              intro x30 h29 eh29
              have L29 : lay h29 := lay_call d 122 [.ref 67, .int 2] h13 _ h29 rfl eh29 L13
              exact mX_reti rfl
          · refine mX_to 2 (k' := 81) (ls' := [some (.ref 67), some (.int l1)]) (st' := [.int 4, .ref 67]) (h' := h9) rfl ?_
            refine mX_ckct (m := mcl (mE mtab d 122 [.ref 67, .int 4] h9) 1 82 [some (.ref 67), some (.int l1)] []) (k_67 L9) rfl ?_
            refine mk_cIe (o := F_X11_opened d 4 h9) ?_
            intro x32 h31 eh31
            have L31 : lay h31 := lay_call d 122 [.ref 67, .int 4] h9 _ h31 rfl eh31 L9
            exact mX_reti rfl
    · rfl
theorem S_X11_beginOne_28 {h : MH} (L : lay h) (d : Nat) (l1 : Int32) : G_X11_beginOne_28 d l1 h = (if (gI h 67 9) = 1 then G_X11_beginOne_36 d l1 0 h else G_X11_beginOne_36 d l1 1 h) := by
  refine mX_to 2 (k' := 30) (ls' := [some (.ref 67), some (.int l1)]) (st' := [.ref 67, .ref 67]) (h' := h) rfl ?_
  refine mX_ckv (v := .int (gI h 67 9)) (v' := .int (gI h 67 9)) (k' := 31) (ls' := [some (.ref 67), some (.int l1)]) (st' := [.ref 67]) (h' := h) (k_67 L) rfl rfl ?_
  refine mX_to 1 (k' := 32) (ls' := [some (.ref 67), some (.int l1)]) (st' := [.int 1, .int (gI h 67 9), .ref 67]) (h' := h) rfl ?_
  refine mX_br (t := 33) (f := 35) (ls' := [some (.ref 67), some (.int l1)]) (st' := [.ref 67]) (h' := h) rfl ?_ ?_
  · refine mX_to 2 (k' := 36) (ls' := [some (.ref 67), some (.int l1)]) (st' := [.int 0, .ref 67]) (h' := h) rfl ?_
    rfl
  · refine mX_to 1 (k' := 36) (ls' := [some (.ref 67), some (.int l1)]) (st' := [.int 1, .ref 67]) (h' := h) rfl ?_
    rfl
theorem S_X11_beginOne_36 {h : MH} (L : lay h) (d : Nat) (l1 : Int32) (s0 : Int32) : G_X11_beginOne_36 d l1 s0 h = (if (gI h 67 9) = 1 then G_X11_beginOne_44 d l1 (gI h 67 10) s0 h else G_X11_beginOne_44 d l1 l1 s0 h) := by
  refine mX_to 1 (k' := 37) (ls' := [some (.ref 67), some (.int l1)]) (st' := [.ref 67, .int s0, .ref 67]) (h' := h) rfl ?_
  refine mX_ckv (v := .int (gI h 67 9)) (v' := .int (gI h 67 9)) (k' := 38) (ls' := [some (.ref 67), some (.int l1)]) (st' := [.int s0, .ref 67]) (h' := h) (k_67 L) rfl rfl ?_
  refine mX_to 1 (k' := 39) (ls' := [some (.ref 67), some (.int l1)]) (st' := [.int 1, .int (gI h 67 9), .int s0, .ref 67]) (h' := h) rfl ?_
  refine mX_br (t := 40) (f := 43) (ls' := [some (.ref 67), some (.int l1)]) (st' := [.int s0, .ref 67]) (h' := h) rfl ?_ ?_
  · refine mX_to 1 (k' := 41) (ls' := [some (.ref 67), some (.int l1)]) (st' := [.ref 67, .int s0, .ref 67]) (h' := h) rfl ?_
    refine mX_ckv (v := .int (gI h 67 10)) (v' := .int (gI h 67 10)) (k' := 42) (ls' := [some (.ref 67), some (.int l1)]) (st' := [.int s0, .ref 67]) (h' := h) (k_67 L) rfl rfl ?_
    refine mX_to 1 (k' := 44) (ls' := [some (.ref 67), some (.int l1)]) (st' := [.int (gI h 67 10), .int s0, .ref 67]) (h' := h) rfl ?_
    rfl
  · refine mX_to 1 (k' := 44) (ls' := [some (.ref 67), some (.int l1)]) (st' := [.int l1, .int s0, .ref 67]) (h' := h) rfl ?_
    rfl
theorem S_X11_beginOne_44 {h : MH} (L : lay h) (d : Nat) (l1 : Int32) (s0 : Int32) (s1 : Int32) : G_X11_beginOne_44 d l1 s0 s1 h = cV (F_X11_emit d s1 s0 h) (fun h33 => cV (F_X11_nextToken d h33) (fun h34 => lt_ (sI h34 67 18 1) fun h36 => cV (F_X11_settle d 7 h36) (fun h37 => some (.int 0, h37)))) := by
  refine mX_ckct (m := mcl (mE mtab d 117 [.ref 67, .int s1, .int s0] h) 0 45 [some (.ref 67), some (.int l1)] []) (k_67 L) rfl ?_
  refine mk_cVe (o := F_X11_emit d s1 s0 h) ?_
  intro wh33 h33 eh33
  have L33 : lay h33 := lay_call d 117 [.ref 67, .int s1, .int s0] h _ h33 rfl eh33 L
  refine mX_to 1 (k' := 46) (ls' := [some (.ref 67), some (.int l1)]) (st' := [.ref 67]) (h' := h33) rfl ?_
  refine mX_ckct (m := mcl (mE mtab d 100 [.ref 67] h33) 0 47 [some (.ref 67), some (.int l1)] []) (k_67 L33) rfl ?_
  refine mk_cVe (o := F_X11_nextToken d h33) ?_
  intro wh34 h34 eh34
  have L34 : lay h34 := lay_call d 100 [.ref 67] h33 _ h34 rfl eh34 L33
  refine mX_to 2 (k' := 49) (ls' := [some (.ref 67), some (.int l1)]) (st' := [.int 1, .ref 67]) (h' := h34) rfl ?_
  refine mX_ckt (k' := 50) (ls' := [some (.ref 67), some (.int l1)]) (st' := []) (h' := (sI h34 67 18 1)) ⟨(k_67 L34), by decide⟩ rfl ?_
  refine lt_geq2 (X := fun h36 : MH => mX (mE mtab d) KX11_beginOne 50 [some (.ref 67), some (.int l1)] [] h36) (a := (sI h34 67 18 1)) (a' := (sI h34 67 18 1)) rfl fun h36 eh36 => ?_
  have L36 : lay h36 := eh36 ▸ layI L34 (by decide)
  refine mX_to 2 (k' := 52) (ls' := [some (.ref 67), some (.int l1)]) (st' := [.int 7, .ref 67]) (h' := h36) rfl ?_
  refine mX_ckct (m := mcl (mE mtab d 118 [.ref 67, .int 7] h36) 0 53 [some (.ref 67), some (.int l1)] []) (k_67 L36) rfl ?_
  refine mk_cVe (o := F_X11_settle d 7 h36) ?_
  intro wh37 h37 eh37
  have L37 : lay h37 := lay_call d 118 [.ref 67, .int 7] h36 _ h37 rfl eh37 L36
  refine mX_to 1 (k' := 54) (ls' := [some (.ref 67), some (.int l1)]) (st' := [.int 0]) (h' := h37) rfl ?_
  exact mX_reti rfl
theorem S_X11_beginOne {h : MH} (L : lay h) (d : Nat) : F_X11_beginOne (d + 1) h = (if (gI h 67 9) = 1 then (if (gI h 67 10) ≤ 9999 then G_X11_beginOne_10 d h else some (.int 2, h)) else G_X11_beginOne_10 d h) := by
  refine mE_eq (q := (yX11_beginOne, cX11_beginOne, 2, (some .int), KX11_beginOne)) (C := KX11_beginOne) (ls := [some (.ref 67), none]) rfl rfl rfl rfl ?_
  refine mX_to 1 (k' := 1) (ls' := [some (.ref 67), none]) (st' := [.ref 67]) (h' := h) rfl ?_
  refine mX_ckv (v := .int (gI h 67 9)) (v' := .int (gI h 67 9)) (k' := 2) (ls' := [some (.ref 67), none]) (st' := []) (h' := h) (k_67 L) rfl rfl ?_
  refine mX_to 1 (k' := 3) (ls' := [some (.ref 67), none]) (st' := [.int 1, .int (gI h 67 9)]) (h' := h) rfl ?_
  refine mX_br (t := 4) (f := 10) (ls' := [some (.ref 67), none]) (st' := []) (h' := h) rfl ?_ ?_
  · refine mX_to 1 (k' := 5) (ls' := [some (.ref 67), none]) (st' := [.ref 67]) (h' := h) rfl ?_
    refine mX_ckv (v := .int (gI h 67 10)) (v' := .int (gI h 67 10)) (k' := 6) (ls' := [some (.ref 67), none]) (st' := []) (h' := h) (k_67 L) rfl rfl ?_
    refine mX_to 1 (k' := 7) (ls' := [some (.ref 67), none]) (st' := [.int 9999, .int (gI h 67 10)]) (h' := h) rfl ?_
    refine mX_br (t := 10) (f := 8) (ls' := [some (.ref 67), none]) (st' := []) (h' := h) rfl ?_ ?_
    · rfl
    · refine mX_to 1 (k' := 9) (ls' := [some (.ref 67), none]) (st' := [.int 2]) (h' := h) rfl ?_
      exact mX_reti rfl
  · rfl
theorem S_X11_summed_9 {h : MH} (L : lay h) (d : Nat) (o1 : Option Value) : G_X11_summed_9 d o1 h = (if (gI h 67 18) = 0 then cI (F_X11_beginOne d h) (fun x8 h7 => (if x8 = 0 then G_X11_summed_9 d (some (.int x8)) h7 else some (.int x8, h7))) else cI (F_X11_behindOne d h) (fun x10 h9 => (if x10 = 0 then cI (F_X11_openNow d h9) (fun x12 h11 => (if x12 < 0 then cV (F_X11_settle d 1 h11) (fun h13 => some (.int 0, h13)) else some (.int 1, h11))) else G_X11_summed_9 d (o1) h9))) := by
  refine mX_to 1 (k' := 10) (ls' := [some (.ref 67), o1]) (st' := [.ref 67]) (h' := h) rfl ?_
  refine mX_ckv (v := .int (gI h 67 18)) (v' := .int (gI h 67 18)) (k' := 11) (ls' := [some (.ref 67), o1]) (st' := []) (h' := h) (k_67 L) rfl rfl ?_
  refine mX_br (t := 26) (f := 12) (ls' := [some (.ref 67), o1]) (st' := []) (h' := h) rfl ?_ ?_
  · refine mX_to 1 (k' := 27) (ls' := [some (.ref 67), o1]) (st' := [.ref 67]) (h' := h) rfl ?_
    refine mX_ckct (m := mcl (mE mtab d 124 [.ref 67] h) 1 28 [some (.ref 67), o1] []) (k_67 L) rfl ?_
    refine mk_cIe (o := F_X11_beginOne d h) ?_
    intro x8 h7 eh7
    have L7 : lay h7 := lay_call d 124 [.ref 67] h _ h7 rfl eh7 L
    refine mX_to 2 (k' := 30) (ls' := [some (.ref 67), some (.int x8)]) (st' := [.int x8]) (h' := h7) rfl ?_
    refine mX_br (t := 33) (f := 31) (ls' := [some (.ref 67), some (.int x8)]) (st' := []) (h' := h7) rfl ?_ ?_
    · refine mX_to 1 (k' := 9) (ls' := [some (.ref 67), some (.int x8)]) (st' := []) (h' := h7) rfl ?_
      rfl
    · refine mX_to 1 (k' := 32) (ls' := [some (.ref 67), some (.int x8)]) (st' := [.int x8]) (h' := h7) rfl ?_
      exact mX_reti rfl
  · refine mX_to 1 (k' := 13) (ls' := [some (.ref 67), o1]) (st' := [.ref 67]) (h' := h) rfl ?_
    refine mX_ckct (m := mcl (mE mtab d 120 [.ref 67] h) 1 14 [some (.ref 67), o1] []) (k_67 L) rfl ?_
    refine mk_cIe (o := F_X11_behindOne d h) ?_
    intro x10 h9 eh9
    have L9 : lay h9 := lay_call d 120 [.ref 67] h _ h9 rfl eh9 L
    refine mX_br (t := 16) (f := 15) (ls' := [some (.ref 67), o1]) (st' := []) (h' := h9) rfl ?_ ?_
    · refine mX_to 1 (k' := 17) (ls' := [some (.ref 67), o1]) (st' := [.ref 67]) (h' := h9) rfl ?_
      refine mX_ckct (m := mcl (mE mtab d 112 [.ref 67] h9) 1 18 [some (.ref 67), o1] []) (k_67 L9) rfl ?_
      refine mk_cIe (o := F_X11_openNow d h9) ?_
      intro x12 h11 eh11
      have L11 : lay h11 := lay_call d 112 [.ref 67] h9 _ h11 rfl eh11 L9
      refine mX_br (t := 21) (f := 19) (ls' := [some (.ref 67), o1]) (st' := []) (h' := h11) rfl ?_ ?_
      · refine mX_to 2 (k' := 23) (ls' := [some (.ref 67), o1]) (st' := [.int 1, .ref 67]) (h' := h11) rfl ?_
        refine mX_ckct (m := mcl (mE mtab d 118 [.ref 67, .int 1] h11) 0 24 [some (.ref 67), o1] []) (k_67 L11) rfl ?_
        refine mk_cVe (o := F_X11_settle d 1 h11) ?_
        intro wh13 h13 eh13
        have L13 : lay h13 := lay_call d 118 [.ref 67, .int 1] h11 _ h13 rfl eh13 L11
        refine mX_to 1 (k' := 25) (ls' := [some (.ref 67), o1]) (st' := [.int 0]) (h' := h13) rfl ?_
        exact mX_reti rfl
      · refine mX_to 1 (k' := 20) (ls' := [some (.ref 67), o1]) (st' := [.int 1]) (h' := h11) rfl ?_
        exact mX_reti rfl
    · refine mX_to 1 (k' := 9) (ls' := [some (.ref 67), o1]) (st' := []) (h' := h9) rfl ?_
      rfl
theorem S_X11_summed {h : MH} (L : lay h) (d : Nat) : F_X11_summed (d + 1) h = lt_ (sI h 67 16 0) fun h2 => lt_ (sI h2 67 17 0) fun h4 => lt_ (sI h4 67 18 0) fun h6 => G_X11_summed_9 d none h6 := by
  refine mE_eq (q := (yX11_summed, cX11_summed, 2, (some .int), KX11_summed)) (C := KX11_summed) (ls := [some (.ref 67), none]) rfl rfl rfl rfl ?_
  refine mX_to 2 (k' := 2) (ls' := [some (.ref 67), none]) (st' := [.int 0, .ref 67]) (h' := h) rfl ?_
  refine mX_ckt (k' := 3) (ls' := [some (.ref 67), none]) (st' := []) (h' := (sI h 67 16 0)) (k_67 L) rfl ?_
  refine lt_geq2 (X := fun h2 : MH => mX (mE mtab d) KX11_summed 3 [some (.ref 67), none] [] h2) (a := (sI h 67 16 0)) (a' := (sI h 67 16 0)) rfl fun h2 eh2 => ?_
  have L2 : lay h2 := eh2 ▸ layI L (by decide)
  refine mX_to 2 (k' := 5) (ls' := [some (.ref 67), none]) (st' := [.int 0, .ref 67]) (h' := h2) rfl ?_
  refine mX_ckt (k' := 6) (ls' := [some (.ref 67), none]) (st' := []) (h' := (sI h2 67 17 0)) (k_67 L2) rfl ?_
  refine lt_geq2 (X := fun h4 : MH => mX (mE mtab d) KX11_summed 6 [some (.ref 67), none] [] h4) (a := (sI h2 67 17 0)) (a' := (sI h2 67 17 0)) rfl fun h4 eh4 => ?_
  have L4 : lay h4 := eh4 ▸ layI L2 (by decide)
  refine mX_to 2 (k' := 8) (ls' := [some (.ref 67), none]) (st' := [.int 0, .ref 67]) (h' := h4) rfl ?_
  refine mX_ckt (k' := 9) (ls' := [some (.ref 67), none]) (st' := []) (h' := (sI h4 67 18 0)) ⟨(k_67 L4), by decide⟩ rfl ?_
  refine lt_geq2 (X := fun h6 : MH => mX (mE mtab d) KX11_summed 9 [some (.ref 67), none] [] h6) (a := (sI h4 67 18 0)) (a' := (sI h4 67 18 0)) rfl fun h6 eh6 => ?_
  have L6 : lay h6 := eh6 ▸ layI L4 (by decide)
  rfl
theorem S_X11_lawClause {h : MH} (L : lay h) (d : Nat) (a1 : Int32) : F_X11_lawClause (d + 1) a1 h = ck (ib (a1 + 1) 2724) (lt_ (sI h 70 (ix (a1 + 1)) (gI h 67 13)) fun h2 => cI (F_X11_summed d h2) (fun x4 h3 => ck (ib (a1 + 2) 2724) (lt_ (sI h3 70 (ix (a1 + 2)) (gI h3 67 13)) fun h6 => some (.int x4, h6)))) := by
  refine mE_eq (q := (yX11_lawClause, cX11_lawClause, 3, (some .int), KX11_lawClause)) (C := KX11_lawClause) (ls := [some (.ref 67), some (.int a1), none]) rfl rfl rfl rfl ?_
  refine mX_to 1 (k' := 1) (ls' := [some (.ref 67), some (.int a1), none]) (st' := [.ref 67]) (h' := h) rfl ?_
  refine mX_ckv (v := .ref (gR h 67 2)) (v' := .ref 70) (k' := 2) (ls' := [some (.ref 67), some (.int a1), none]) (st' := []) (h' := h) (k_67 L) (congrArg Value.ref (r_67_2 L)) rfl ?_
  refine mX_to 4 (k' := 6) (ls' := [some (.ref 67), some (.int a1), none]) (st' := [.ref 67, .int (a1 + 1), .ref 70]) (h' := h) rfl ?_
  refine mX_ckv (v := .int (gI h 67 13)) (v' := .int (gI h 67 13)) (k' := 7) (ls' := [some (.ref 67), some (.int a1), none]) (st' := [.int (a1 + 1), .ref 70]) (h' := h) (k_67 L) rfl rfl ?_
  refine mX_cki (k' := 8) (ls' := [some (.ref 67), some (.int a1), none]) (st' := []) (h' := (sI h 70 (ix (a1 + 1)) (gI h 67 13))) (ckA0 (k_70 L) (n_70 L)) rfl fun c1 => ?_
  refine lt_geq2 (X := fun h2 : MH => mX (mE mtab d) KX11_lawClause 8 [some (.ref 67), some (.int a1), none] [] h2) (a := (sI h 70 (ix (a1 + 1)) (gI h 67 13))) (a' := (sI h 70 (ix (a1 + 1)) (gI h 67 13))) rfl fun h2 eh2 => ?_
  have L2 : lay h2 := eh2 ▸ layI L (by decide)
  refine mX_to 1 (k' := 9) (ls' := [some (.ref 67), some (.int a1), none]) (st' := [.ref 67]) (h' := h2) rfl ?_
  refine mX_ckct (m := mcl (mE mtab d 125 [.ref 67] h2) 1 10 [some (.ref 67), some (.int a1), none] []) (k_67 L2) rfl ?_
  refine mk_cIe (o := F_X11_summed d h2) ?_
  intro x4 h3 eh3
  have L3 : lay h3 := lay_call d 125 [.ref 67] h2 _ h3 rfl eh3 L2
  refine mX_to 2 (k' := 12) (ls' := [some (.ref 67), some (.int a1), some (.int x4)]) (st' := [.ref 67]) (h' := h3) rfl ?_
  refine mX_ckv (v := .ref (gR h3 67 2)) (v' := .ref 70) (k' := 13) (ls' := [some (.ref 67), some (.int a1), some (.int x4)]) (st' := []) (h' := h3) (k_67 L3) (congrArg Value.ref (r_67_2 L3)) rfl ?_
  refine mX_to 4 (k' := 17) (ls' := [some (.ref 67), some (.int a1), some (.int x4)]) (st' := [.ref 67, .int (a1 + 2), .ref 70]) (h' := h3) rfl ?_
  refine mX_ckv (v := .int (gI h3 67 13)) (v' := .int (gI h3 67 13)) (k' := 18) (ls' := [some (.ref 67), some (.int a1), some (.int x4)]) (st' := [.int (a1 + 2), .ref 70]) (h' := h3) (k_67 L3) rfl rfl ?_
  refine mX_cki (k' := 19) (ls' := [some (.ref 67), some (.int a1), some (.int x4)]) (st' := []) (h' := (sI h3 70 (ix (a1 + 2)) (gI h3 67 13))) (ckA0 (k_70 L3) (n_70 L3)) rfl fun c5 => ?_
  refine lt_geq2 (X := fun h6 : MH => mX (mE mtab d) KX11_lawClause 19 [some (.ref 67), some (.int a1), some (.int x4)] [] h6) (a := (sI h3 70 (ix (a1 + 2)) (gI h3 67 13))) (a' := (sI h3 70 (ix (a1 + 2)) (gI h3 67 13))) rfl fun h6 eh6 => ?_
  have L6 : lay h6 := eh6 ▸ layI L3 (by decide)
  refine mX_to 1 (k' := 20) (ls' := [some (.ref 67), some (.int a1), some (.int x4)]) (st' := [.int x4]) (h' := h6) rfl ?_
  exact mX_reti rfl
