/-! EQUATIONS OF THE METHODS (written by wip/gen/dgen.py) -/
theorem D_X11_heaviest_4 (d : Nat) (h : MH) (l0 : Nat) (l1 : Int32) (l2 : Int32) : mX (mE mtab d) KX11_heaviest 4 [some (.ref l0), some (.int l1), some (.int l2)] [] h = (if l2 < 9 then ck (kd h l0 = 12) (cI (mE mtab d 162 [.ref l0, .int l2] h) (fun x2 h1 => (if l1 = (-1) then mX (mE mtab d) KX11_heaviest 18 [some (.ref l0), some (.int l1), some (.int l2)] [.int 0, .int x2] h1 else ck (kd h1 l0 = 12) (cI (mE mtab d 162 [.ref l0, .int l1] h1) (fun x4 h3 => mX (mE mtab d) KX11_heaviest 18 [some (.ref l0), some (.int l1), some (.int l2)] [.int x4, .int x2] h3))))) else some (.int l1, h)) := by
  refine mX_to 2 (k' := 6) (ls' := [some (.ref l0), some (.int l1), some (.int l2)]) (st' := [.int 9, .int l2]) (h' := h) rfl ?_
  refine mX_br (t := 7) (f := 23) (ls' := [some (.ref l0), some (.int l1), some (.int l2)]) (st' := []) (h' := h) rfl ?_ ?_
  · refine mX_to 2 (k' := 9) (ls' := [some (.ref l0), some (.int l1), some (.int l2)]) (st' := [.int l2, .ref l0]) (h' := h) rfl ?_
    refine mX_ckc (m := mcl (mE mtab d 162 [.ref l0, .int l2] h) 1 10 [some (.ref l0), some (.int l1), some (.int l2)] []) rfl ?_
    refine mk_cI ?_
    intro x2 h1
    refine mX_to 2 (k' := 12) (ls' := [some (.ref l0), some (.int l1), some (.int l2)]) (st' := [.int (-1), .int l1, .int x2]) (h' := h1) rfl ?_
    refine mX_br (t := 13) (f := 15) (ls' := [some (.ref l0), some (.int l1), some (.int l2)]) (st' := [.int x2]) (h' := h1) rfl ?_ ?_
    · refine mX_to 2 (k' := 18) (ls' := [some (.ref l0), some (.int l1), some (.int l2)]) (st' := [.int 0, .int x2]) (h' := h1) rfl ?_
      rfl
    · refine mX_to 2 (k' := 17) (ls' := [some (.ref l0), some (.int l1), some (.int l2)]) (st' := [.int l1, .ref l0, .int x2]) (h' := h1) rfl ?_
      refine mX_ckc (m := mcl (mE mtab d 162 [.ref l0, .int l1] h1) 1 18 [some (.ref l0), some (.int l1), some (.int l2)] [.int x2]) rfl ?_
      refine mk_cI ?_
      intro x4 h3
      rfl
  · refine mX_to 1 (k' := 24) (ls' := [some (.ref l0), some (.int l1), some (.int l2)]) (st' := [.int l1]) (h' := h) rfl ?_
    exact mX_reti rfl
theorem D_X11_heaviest_18 (d : Nat) (h : MH) (l0 : Nat) (l1 : Int32) (l2 : Int32) (s0 : Int32) (s1 : Int32) : mX (mE mtab d) KX11_heaviest 18 [some (.ref l0), some (.int l1), some (.int l2)] [.int s0, .int s1] h = (if s1 ≤ s0 then mX (mE mtab d) KX11_heaviest 21 [some (.ref l0), some (.int l1), some (.int l2)] [] h else mX (mE mtab d) KX11_heaviest 21 [some (.ref l0), some (.int l2), some (.int l2)] [] h) := by
  refine mX_br (t := 21) (f := 19) (ls' := [some (.ref l0), some (.int l1), some (.int l2)]) (st' := []) (h' := h) rfl ?_ ?_
  · rfl
  · refine mX_to 2 (k' := 21) (ls' := [some (.ref l0), some (.int l2), some (.int l2)]) (st' := []) (h' := h) rfl ?_
    rfl
theorem D_X11_heaviest_21 (d : Nat) (h : MH) (l0 : Nat) (l1 : Int32) (l2 : Int32) : mX (mE mtab d) KX11_heaviest 21 [some (.ref l0), some (.int l1), some (.int l2)] [] h = mX (mE mtab d) KX11_heaviest 4 [some (.ref l0), some (.int l1), some (.int (l2 + 1))] [] h := by
  refine mX_to 2 (k' := 4) (ls' := [some (.ref l0), some (.int l1), some (.int (l2 + 1))]) (st' := []) (h' := h) rfl ?_
  rfl
theorem D_X11_heaviest (d : Nat) (h : MH) (a0 : Nat) : mE mtab (d + 1) 322 [.ref a0] h = mX (mE mtab d) KX11_heaviest 4 [some (.ref a0), some (.int (-1)), some (.int 0)] [] h := by
  refine mE_eq (q := (yX11_heaviest, cX11_heaviest, 3, (some .int), KX11_heaviest)) (C := KX11_heaviest) (ls := [some (.ref a0), none, none]) rfl rfl rfl rfl ?_
  refine mX_to 4 (k' := 4) (ls' := [some (.ref a0), some (.int (-1)), some (.int 0)]) (st' := []) (h' := h) rfl ?_
  rfl
theorem D_X9_timesWritten_4 (d : Nat) (h : MH) (l0 : Nat) (l1 : Int32) (l2 : Int32) (l3 : Int32) : mX (mE mtab d) KX9_timesWritten 4 [some (.ref l0), some (.int l1), some (.int l2), some (.int l3)] [] h = ck (kd h l0 = 10) ((if l3 < (gI h l0 8) then ck (kd h l0 = 10) (cI (mE mtab d 221 [.ref l0, .int l3, .int 1] h) (fun x2 h1 => (if x2 = l1 then mX (mE mtab d) KX9_timesWritten 15 [some (.ref l0), some (.int l1), some (.int (l2 + 1)), some (.int l3)] [] h1 else mX (mE mtab d) KX9_timesWritten 15 [some (.ref l0), some (.int l1), some (.int l2), some (.int l3)] [] h1))) else some (.int l2, h))) := by
  refine mX_to 2 (k' := 6) (ls' := [some (.ref l0), some (.int l1), some (.int l2), some (.int l3)]) (st' := [.ref l0, .int l3]) (h' := h) rfl ?_
  refine mX_ck (k' := 7) (ls' := [some (.ref l0), some (.int l1), some (.int l2), some (.int l3)]) (st' := [.int (gI h l0 8), .int l3]) (h' := h) rfl ?_
  refine mX_br (t := 8) (f := 17) (ls' := [some (.ref l0), some (.int l1), some (.int l2), some (.int l3)]) (st' := []) (h' := h) rfl ?_ ?_
  · refine mX_to 3 (k' := 11) (ls' := [some (.ref l0), some (.int l1), some (.int l2), some (.int l3)]) (st' := [.int 1, .int l3, .ref l0]) (h' := h) rfl ?_
    refine mX_ckc (m := mcl (mE mtab d 221 [.ref l0, .int l3, .int 1] h) 1 12 [some (.ref l0), some (.int l1), some (.int l2), some (.int l3)] []) rfl ?_
    refine mk_cI ?_
    intro x2 h1
    refine mX_to 1 (k' := 13) (ls' := [some (.ref l0), some (.int l1), some (.int l2), some (.int l3)]) (st' := [.int l1, .int x2]) (h' := h1) rfl ?_
    refine mX_br (t := 14) (f := 15) (ls' := [some (.ref l0), some (.int l1), some (.int l2), some (.int l3)]) (st' := []) (h' := h1) rfl ?_ ?_
    · refine mX_to 1 (k' := 15) (ls' := [some (.ref l0), some (.int l1), some (.int (l2 + 1)), some (.int l3)]) (st' := []) (h' := h1) rfl ?_
      rfl
    · rfl
  · refine mX_to 1 (k' := 18) (ls' := [some (.ref l0), some (.int l1), some (.int l2), some (.int l3)]) (st' := [.int l2]) (h' := h) rfl ?_
    exact mX_reti rfl
theorem D_X9_timesWritten_15 (d : Nat) (h : MH) (l0 : Nat) (l1 : Int32) (l2 : Int32) (l3 : Int32) : mX (mE mtab d) KX9_timesWritten 15 [some (.ref l0), some (.int l1), some (.int l2), some (.int l3)] [] h = mX (mE mtab d) KX9_timesWritten 4 [some (.ref l0), some (.int l1), some (.int l2), some (.int (l3 + 1))] [] h := by
  refine mX_to 2 (k' := 4) (ls' := [some (.ref l0), some (.int l1), some (.int l2), some (.int (l3 + 1))]) (st' := []) (h' := h) rfl ?_
  rfl
theorem D_X9_timesWritten (d : Nat) (h : MH) (a0 : Nat) (a1 : Int32) : mE mtab (d + 1) 323 [.ref a0, .int a1] h = mX (mE mtab d) KX9_timesWritten 4 [some (.ref a0), some (.int a1), some (.int 0), some (.int 0)] [] h := by
  refine mE_eq (q := (yX9_timesWritten, cX9_timesWritten, 4, (some .int), KX9_timesWritten)) (C := KX9_timesWritten) (ls := [some (.ref a0), some (.int a1), none, none]) rfl rfl rfl rfl ?_
  refine mX_to 4 (k' := 4) (ls' := [some (.ref a0), some (.int a1), some (.int 0), some (.int 0)]) (st' := []) (h' := h) rfl ?_
  rfl
theorem D_X10_travelled_6 (d : Nat) (h : MH) (l0 : Nat) (l1 : Int32) (l2 : Int32) (l3 : Int32) (o4 : Option Value) : mX (mE mtab d) KX10_travelled 6 [some (.ref l0), some (.int l1), some (.int l2), some (.int l3), o4] [] h = ck (kd h l0 = 11) (ck (kd h (gR h l0 0) = 1) (ck (kd h (gR h (gR h l0 0) 0) = 10) ((if l3 < (gI h (gR h (gR h l0 0) 0) 0) then ck (kd h l0 = 11) (ck (kd h (gR h l0 0) = 1) (ck (kd h (gR h (gR h l0 0) 0) = 10) (cI (mE mtab d 323 [.ref (gR h (gR h l0 0) 0), .int l3] h) (fun x2 h1 => (if x2 ≤ l2 then mX (mE mtab d) KX10_travelled 25 [some (.ref l0), some (.int l1), some (.int l2), some (.int l3), some (.int x2)] [] h1 else mX (mE mtab d) KX10_travelled 25 [some (.ref l0), some (.int l3), some (.int x2), some (.int l3), some (.int x2)] [] h1))))) else some (.int l1, h))))) := by
  refine mX_to 2 (k' := 8) (ls' := [some (.ref l0), some (.int l1), some (.int l2), some (.int l3), o4]) (st' := [.ref l0, .int l3]) (h' := h) rfl ?_
  refine mX_ck (k' := 9) (ls' := [some (.ref l0), some (.int l1), some (.int l2), some (.int l3), o4]) (st' := [.ref (gR h l0 0), .int l3]) (h' := h) rfl ?_
  refine mX_ck (k' := 10) (ls' := [some (.ref l0), some (.int l1), some (.int l2), some (.int l3), o4]) (st' := [.ref (gR h (gR h l0 0) 0), .int l3]) (h' := h) rfl ?_
  refine mX_ck (k' := 11) (ls' := [some (.ref l0), some (.int l1), some (.int l2), some (.int l3), o4]) (st' := [.int (gI h (gR h (gR h l0 0) 0) 0), .int l3]) (h' := h) rfl ?_
  refine mX_br (t := 12) (f := 27) (ls' := [some (.ref l0), some (.int l1), some (.int l2), some (.int l3), o4]) (st' := []) (h' := h) rfl ?_ ?_
  · refine mX_to 1 (k' := 13) (ls' := [some (.ref l0), some (.int l1), some (.int l2), some (.int l3), o4]) (st' := [.ref l0]) (h' := h) rfl ?_
    refine mX_ck (k' := 14) (ls' := [some (.ref l0), some (.int l1), some (.int l2), some (.int l3), o4]) (st' := [.ref (gR h l0 0)]) (h' := h) rfl ?_
    refine mX_ck (k' := 15) (ls' := [some (.ref l0), some (.int l1), some (.int l2), some (.int l3), o4]) (st' := [.ref (gR h (gR h l0 0) 0)]) (h' := h) rfl ?_
    refine mX_to 1 (k' := 16) (ls' := [some (.ref l0), some (.int l1), some (.int l2), some (.int l3), o4]) (st' := [.int l3, .ref (gR h (gR h l0 0) 0)]) (h' := h) rfl ?_
    refine mX_ckc (m := mcl (mE mtab d 323 [.ref (gR h (gR h l0 0) 0), .int l3] h) 1 17 [some (.ref l0), some (.int l1), some (.int l2), some (.int l3), o4] []) rfl ?_
    refine mk_cI ?_
    intro x2 h1
    refine mX_to 3 (k' := 20) (ls' := [some (.ref l0), some (.int l1), some (.int l2), some (.int l3), some (.int x2)]) (st' := [.int l2, .int x2]) (h' := h1) rfl ?_
    refine mX_br (t := 25) (f := 21) (ls' := [some (.ref l0), some (.int l1), some (.int l2), some (.int l3), some (.int x2)]) (st' := []) (h' := h1) rfl ?_ ?_
    · rfl
    · refine mX_to 4 (k' := 25) (ls' := [some (.ref l0), some (.int l3), some (.int x2), some (.int l3), some (.int x2)]) (st' := []) (h' := h1) rfl ?_
      rfl
  · refine mX_to 1 (k' := 28) (ls' := [some (.ref l0), some (.int l1), some (.int l2), some (.int l3), o4]) (st' := [.int l1]) (h' := h) rfl ?_
    exact mX_reti rfl
theorem D_X10_travelled_25 (d : Nat) (h : MH) (l0 : Nat) (l1 : Int32) (l2 : Int32) (l3 : Int32) (l4 : Int32) : mX (mE mtab d) KX10_travelled 25 [some (.ref l0), some (.int l1), some (.int l2), some (.int l3), some (.int l4)] [] h = mX (mE mtab d) KX10_travelled 6 [some (.ref l0), some (.int l1), some (.int l2), some (.int (l3 + 1)), some (.int l4)] [] h := by
  refine mX_to 2 (k' := 6) (ls' := [some (.ref l0), some (.int l1), some (.int l2), some (.int (l3 + 1)), some (.int l4)]) (st' := []) (h' := h) rfl ?_
  rfl
theorem D_X10_travelled (d : Nat) (h : MH) (a0 : Nat) : mE mtab (d + 1) 324 [.ref a0] h = mX (mE mtab d) KX10_travelled 6 [some (.ref a0), some (.int (-1)), some (.int 0), some (.int 0), none] [] h := by
  refine mE_eq (q := (yX10_travelled, cX10_travelled, 5, (some .int), KX10_travelled)) (C := KX10_travelled) (ls := [some (.ref a0), none, none, none, none]) rfl rfl rfl rfl ?_
  refine mX_to 6 (k' := 6) (ls' := [some (.ref a0), some (.int (-1)), some (.int 0), some (.int 0), none]) (st' := []) (h' := h) rfl ?_
  rfl
theorem D_X11_linesOf_4 (d : Nat) (h : MH) (l0 : Nat) (l1 : Int32) (l2 : Int32) (l3 : Int32) : mX (mE mtab d) KX11_linesOf 4 [some (.ref l0), some (.int l1), some (.int l2), some (.int l3)] [] h = ck (kd h l0 = 12) (ck ((kd h (gR h l0 0) = 20 ∨ kd h (gR h l0 0) = 24) ∧ ib (8 : Int32) (ln h (gR h l0 0))) ((if l3 < (gI h (gR h l0 0) (ix (8 : Int32))) then (if l1 = (-1) then mX (mE mtab d) KX11_linesOf 20 [some (.ref l0), some (.int l1), some (.int l2), some (.int l3)] [.int l2] h else ck (kd h l0 = 12) (cI (mE mtab d 223 [.ref l0, .int l3, .int 1] h) (fun x2 h1 => (if x2 = l1 then mX (mE mtab d) KX11_linesOf 20 [some (.ref l0), some (.int l1), some (.int l2), some (.int l3)] [.int l2] h1 else mX (mE mtab d) KX11_linesOf 23 [some (.ref l0), some (.int l1), some (.int l2), some (.int l3)] [.int 0, .int l2] h1)))) else some (.int l2, h)))) := by
  refine mX_to 2 (k' := 6) (ls' := [some (.ref l0), some (.int l1), some (.int l2), some (.int l3)]) (st' := [.ref l0, .int l3]) (h' := h) rfl ?_
  refine mX_ck (k' := 7) (ls' := [some (.ref l0), some (.int l1), some (.int l2), some (.int l3)]) (st' := [.ref (gR h l0 0), .int l3]) (h' := h) rfl ?_
  refine mX_to 1 (k' := 8) (ls' := [some (.ref l0), some (.int l1), some (.int l2), some (.int l3)]) (st' := [.int 8, .ref (gR h l0 0), .int l3]) (h' := h) rfl ?_
  refine mX_ck (k' := 9) (ls' := [some (.ref l0), some (.int l1), some (.int l2), some (.int l3)]) (st' := [.int (gI h (gR h l0 0) (ix (8 : Int32))), .int l3]) (h' := h) rfl ?_
  refine mX_br (t := 10) (f := 27) (ls' := [some (.ref l0), some (.int l1), some (.int l2), some (.int l3)]) (st' := []) (h' := h) rfl ?_ ?_
  · refine mX_to 3 (k' := 13) (ls' := [some (.ref l0), some (.int l1), some (.int l2), some (.int l3)]) (st' := [.int (-1), .int l1, .int l2]) (h' := h) rfl ?_
    refine mX_br (t := 20) (f := 14) (ls' := [some (.ref l0), some (.int l1), some (.int l2), some (.int l3)]) (st' := [.int l2]) (h' := h) rfl ?_ ?_
    · rfl
    · refine mX_to 3 (k' := 17) (ls' := [some (.ref l0), some (.int l1), some (.int l2), some (.int l3)]) (st' := [.int 1, .int l3, .ref l0, .int l2]) (h' := h) rfl ?_
      refine mX_ckc (m := mcl (mE mtab d 223 [.ref l0, .int l3, .int 1] h) 1 18 [some (.ref l0), some (.int l1), some (.int l2), some (.int l3)] [.int l2]) rfl ?_
      refine mk_cI ?_
      intro x2 h1
      refine mX_to 1 (k' := 19) (ls' := [some (.ref l0), some (.int l1), some (.int l2), some (.int l3)]) (st' := [.int l1, .int x2, .int l2]) (h' := h1) rfl ?_
      refine mX_br (t := 20) (f := 22) (ls' := [some (.ref l0), some (.int l1), some (.int l2), some (.int l3)]) (st' := [.int l2]) (h' := h1) rfl ?_ ?_
      · rfl
      · refine mX_to 1 (k' := 23) (ls' := [some (.ref l0), some (.int l1), some (.int l2), some (.int l3)]) (st' := [.int 0, .int l2]) (h' := h1) rfl ?_
        rfl
  · refine mX_to 1 (k' := 28) (ls' := [some (.ref l0), some (.int l1), some (.int l2), some (.int l3)]) (st' := [.int l2]) (h' := h) rfl ?_
    exact mX_reti rfl
theorem D_X11_linesOf_20 (d : Nat) (h : MH) (l0 : Nat) (l1 : Int32) (l2 : Int32) (l3 : Int32) (s0 : Int32) : mX (mE mtab d) KX11_linesOf 20 [some (.ref l0), some (.int l1), some (.int l2), some (.int l3)] [.int s0] h = mX (mE mtab d) KX11_linesOf 23 [some (.ref l0), some (.int l1), some (.int l2), some (.int l3)] [.int 1, .int s0] h := by
  refine mX_to 2 (k' := 23) (ls' := [some (.ref l0), some (.int l1), some (.int l2), some (.int l3)]) (st' := [.int 1, .int s0]) (h' := h) rfl ?_
  rfl
theorem D_X11_linesOf_23 (d : Nat) (h : MH) (l0 : Nat) (l1 : Int32) (l2 : Int32) (l3 : Int32) (s0 : Int32) (s1 : Int32) : mX (mE mtab d) KX11_linesOf 23 [some (.ref l0), some (.int l1), some (.int l2), some (.int l3)] [.int s0, .int s1] h = lt_ (s1 + s0) fun v3 => mX (mE mtab d) KX11_linesOf 4 [some (.ref l0), some (.int l1), some (.int v3), some (.int (l3 + 1))] [] h := by
  refine mX_to 1 (k' := 24) (ls' := [some (.ref l0), some (.int l1), some (.int l2), some (.int l3)]) (st' := [.int (s1 + s0)]) (h' := h) rfl ?_
  refine lt_gen (X := fun v3 : Int32 => mX (mE mtab d) KX11_linesOf 24 [some (.ref l0), some (.int l1), some (.int l2), some (.int l3)] [.int v3] h) fun v3 => ?_
  refine mX_to 3 (k' := 4) (ls' := [some (.ref l0), some (.int l1), some (.int v3), some (.int (l3 + 1))]) (st' := []) (h' := h) rfl ?_
  rfl
theorem D_X11_linesOf (d : Nat) (h : MH) (a0 : Nat) (a1 : Int32) : mE mtab (d + 1) 325 [.ref a0, .int a1] h = mX (mE mtab d) KX11_linesOf 4 [some (.ref a0), some (.int a1), some (.int 0), some (.int 0)] [] h := by
  refine mE_eq (q := (yX11_linesOf, cX11_linesOf, 4, (some .int), KX11_linesOf)) (C := KX11_linesOf) (ls := [some (.ref a0), some (.int a1), none, none]) rfl rfl rfl rfl ?_
  refine mX_to 4 (k' := 4) (ls' := [some (.ref a0), some (.int a1), some (.int 0), some (.int 0)]) (st' := []) (h' := h) rfl ?_
  rfl
theorem D_X11_travelled_4 (d : Nat) (h : MH) (l0 : Nat) (l1 : Int32) (l2 : Int32) : mX (mE mtab d) KX11_travelled 4 [some (.ref l0), some (.int l1), some (.int l2)] [] h = ck (kd h l0 = 12) (ck ((kd h (gR h l0 0) = 20 ∨ kd h (gR h l0 0) = 24) ∧ ib (0 : Int32) (ln h (gR h l0 0))) ((if l2 < (gI h (gR h l0 0) (ix (0 : Int32))) then ck (kd h l0 = 12) (cI (mE mtab d 325 [.ref l0, .int l2] h) (fun x2 h1 => (if l1 = (-1) then mX (mE mtab d) KX11_travelled 21 [some (.ref l0), some (.int l1), some (.int l2)] [.int 0, .int x2] h1 else ck (kd h1 l0 = 12) (cI (mE mtab d 325 [.ref l0, .int l1] h1) (fun x4 h3 => mX (mE mtab d) KX11_travelled 21 [some (.ref l0), some (.int l1), some (.int l2)] [.int x4, .int x2] h3))))) else some (.int l1, h)))) := by
  refine mX_to 2 (k' := 6) (ls' := [some (.ref l0), some (.int l1), some (.int l2)]) (st' := [.ref l0, .int l2]) (h' := h) rfl ?_
  refine mX_ck (k' := 7) (ls' := [some (.ref l0), some (.int l1), some (.int l2)]) (st' := [.ref (gR h l0 0), .int l2]) (h' := h) rfl ?_
  refine mX_to 1 (k' := 8) (ls' := [some (.ref l0), some (.int l1), some (.int l2)]) (st' := [.int 0, .ref (gR h l0 0), .int l2]) (h' := h) rfl ?_
  refine mX_ck (k' := 9) (ls' := [some (.ref l0), some (.int l1), some (.int l2)]) (st' := [.int (gI h (gR h l0 0) (ix (0 : Int32))), .int l2]) (h' := h) rfl ?_
  refine mX_br (t := 10) (f := 26) (ls' := [some (.ref l0), some (.int l1), some (.int l2)]) (st' := []) (h' := h) rfl ?_ ?_
  · refine mX_to 2 (k' := 12) (ls' := [some (.ref l0), some (.int l1), some (.int l2)]) (st' := [.int l2, .ref l0]) (h' := h) rfl ?_
    refine mX_ckc (m := mcl (mE mtab d 325 [.ref l0, .int l2] h) 1 13 [some (.ref l0), some (.int l1), some (.int l2)] []) rfl ?_
    refine mk_cI ?_
    intro x2 h1
    refine mX_to 2 (k' := 15) (ls' := [some (.ref l0), some (.int l1), some (.int l2)]) (st' := [.int (-1), .int l1, .int x2]) (h' := h1) rfl ?_
    refine mX_br (t := 16) (f := 18) (ls' := [some (.ref l0), some (.int l1), some (.int l2)]) (st' := [.int x2]) (h' := h1) rfl ?_ ?_
    · refine mX_to 2 (k' := 21) (ls' := [some (.ref l0), some (.int l1), some (.int l2)]) (st' := [.int 0, .int x2]) (h' := h1) rfl ?_
      rfl
    · refine mX_to 2 (k' := 20) (ls' := [some (.ref l0), some (.int l1), some (.int l2)]) (st' := [.int l1, .ref l0, .int x2]) (h' := h1) rfl ?_
      refine mX_ckc (m := mcl (mE mtab d 325 [.ref l0, .int l1] h1) 1 21 [some (.ref l0), some (.int l1), some (.int l2)] [.int x2]) rfl ?_
      refine mk_cI ?_
      intro x4 h3
      rfl
  · refine mX_to 1 (k' := 27) (ls' := [some (.ref l0), some (.int l1), some (.int l2)]) (st' := [.int l1]) (h' := h) rfl ?_
    exact mX_reti rfl
theorem D_X11_travelled_21 (d : Nat) (h : MH) (l0 : Nat) (l1 : Int32) (l2 : Int32) (s0 : Int32) (s1 : Int32) : mX (mE mtab d) KX11_travelled 21 [some (.ref l0), some (.int l1), some (.int l2)] [.int s0, .int s1] h = (if s1 ≤ s0 then mX (mE mtab d) KX11_travelled 24 [some (.ref l0), some (.int l1), some (.int l2)] [] h else mX (mE mtab d) KX11_travelled 24 [some (.ref l0), some (.int l2), some (.int l2)] [] h) := by
  refine mX_br (t := 24) (f := 22) (ls' := [some (.ref l0), some (.int l1), some (.int l2)]) (st' := []) (h' := h) rfl ?_ ?_
  · rfl
  · refine mX_to 2 (k' := 24) (ls' := [some (.ref l0), some (.int l2), some (.int l2)]) (st' := []) (h' := h) rfl ?_
    rfl
theorem D_X11_travelled_24 (d : Nat) (h : MH) (l0 : Nat) (l1 : Int32) (l2 : Int32) : mX (mE mtab d) KX11_travelled 24 [some (.ref l0), some (.int l1), some (.int l2)] [] h = mX (mE mtab d) KX11_travelled 4 [some (.ref l0), some (.int l1), some (.int (l2 + 1))] [] h := by
  refine mX_to 2 (k' := 4) (ls' := [some (.ref l0), some (.int l1), some (.int (l2 + 1))]) (st' := []) (h' := h) rfl ?_
  rfl
theorem D_X11_travelled (d : Nat) (h : MH) (a0 : Nat) : mE mtab (d + 1) 326 [.ref a0] h = mX (mE mtab d) KX11_travelled 4 [some (.ref a0), some (.int (-1)), some (.int 0)] [] h := by
  refine mE_eq (q := (yX11_travelled, cX11_travelled, 3, (some .int), KX11_travelled)) (C := KX11_travelled) (ls := [some (.ref a0), none, none]) rfl rfl rfl rfl ?_
  refine mX_to 4 (k' := 4) (ls' := [some (.ref a0), some (.int (-1)), some (.int 0)]) (st' := []) (h' := h) rfl ?_
  rfl
theorem D_X10_ledger (d : Nat) (h : MH) (a0 : Nat) (a1 : Int32) : mE mtab (d + 1) 327 [.ref a0, .int a1] h = (if a1 = (-1) then ck (kd h a0 = 11) (ck (kd h (gR h a0 0) = 1) (ck (kd h (gR h (gR h a0 0) 0) = 10) (some (.int (gI h (gR h (gR h a0 0) 0) 8), h)))) else ck (kd h a0 = 11) (ck (kd h (gR h a0 0) = 1) (ck (kd h (gR h (gR h a0 0) 0) = 10) (cI (mE mtab d 17 [.ref (gR h (gR h a0 0) 0), .int a1] h) (fun x2 h1 => (if x2 = 0 then some (.int (-2), h1) else ck (kd h1 a0 = 11) (ck (kd h1 (gR h1 a0 0) = 1) (ck (kd h1 (gR h1 (gR h1 a0 0) 0) = 10) (cI (mE mtab d 323 [.ref (gR h1 (gR h1 a0 0) 0), .int a1] h1) (fun x4 h3 => some (.int x4, h3))))))))))) := by
  refine mE_eq (q := (yX10_ledger, cX10_ledger, 2, (some .int), KX10_ledger)) (C := KX10_ledger) (ls := [some (.ref a0), some (.int a1)]) rfl rfl rfl rfl ?_
  refine mX_to 2 (k' := 2) (ls' := [some (.ref a0), some (.int a1)]) (st' := [.int (-1), .int a1]) (h' := h) rfl ?_
  refine mX_br (t := 3) (f := 8) (ls' := [some (.ref a0), some (.int a1)]) (st' := []) (h' := h) rfl ?_ ?_
  · refine mX_to 1 (k' := 4) (ls' := [some (.ref a0), some (.int a1)]) (st' := [.ref a0]) (h' := h) rfl ?_
    refine mX_ck (k' := 5) (ls' := [some (.ref a0), some (.int a1)]) (st' := [.ref (gR h a0 0)]) (h' := h) rfl ?_
    refine mX_ck (k' := 6) (ls' := [some (.ref a0), some (.int a1)]) (st' := [.ref (gR h (gR h a0 0) 0)]) (h' := h) rfl ?_
    refine mX_ck (k' := 7) (ls' := [some (.ref a0), some (.int a1)]) (st' := [.int (gI h (gR h (gR h a0 0) 0) 8)]) (h' := h) rfl ?_
    exact mX_reti rfl
  · refine mX_to 1 (k' := 9) (ls' := [some (.ref a0), some (.int a1)]) (st' := [.ref a0]) (h' := h) rfl ?_
    refine mX_ck (k' := 10) (ls' := [some (.ref a0), some (.int a1)]) (st' := [.ref (gR h a0 0)]) (h' := h) rfl ?_
    refine mX_ck (k' := 11) (ls' := [some (.ref a0), some (.int a1)]) (st' := [.ref (gR h (gR h a0 0) 0)]) (h' := h) rfl ?_
    refine mX_to 1 (k' := 12) (ls' := [some (.ref a0), some (.int a1)]) (st' := [.int a1, .ref (gR h (gR h a0 0) 0)]) (h' := h) rfl ?_
    refine mX_ckc (m := mcl (mE mtab d 17 [.ref (gR h (gR h a0 0) 0), .int a1] h) 1 13 [some (.ref a0), some (.int a1)] []) rfl ?_
    refine mk_cI ?_
    intro x2 h1
    refine mX_br (t := 20) (f := 14) (ls' := [some (.ref a0), some (.int a1)]) (st' := []) (h' := h1) rfl ?_ ?_
    · refine mX_to 1 (k' := 21) (ls' := [some (.ref a0), some (.int a1)]) (st' := [.int (-2)]) (h' := h1) rfl ?_
      exact mX_reti rfl
    · refine mX_to 1 (k' := 15) (ls' := [some (.ref a0), some (.int a1)]) (st' := [.ref a0]) (h' := h1) rfl ?_
      refine mX_ck (k' := 16) (ls' := [some (.ref a0), some (.int a1)]) (st' := [.ref (gR h1 a0 0)]) (h' := h1) rfl ?_
      refine mX_ck (k' := 17) (ls' := [some (.ref a0), some (.int a1)]) (st' := [.ref (gR h1 (gR h1 a0 0) 0)]) (h' := h1) rfl ?_
      refine mX_to 1 (k' := 18) (ls' := [some (.ref a0), some (.int a1)]) (st' := [.int a1, .ref (gR h1 (gR h1 a0 0) 0)]) (h' := h1) rfl ?_
      refine mX_ckc (m := mcl (mE mtab d 323 [.ref (gR h1 (gR h1 a0 0) 0), .int a1] h1) 1 19 [some (.ref a0), some (.int a1)] []) rfl ?_
      refine mk_cI ?_
      intro x4 h3
      refine mX_to 1 (k' := 21) (ls' := [some (.ref a0), some (.int a1)]) (st' := [.int x4]) (h' := h3) rfl ?_
      exact mX_reti rfl
theorem D_X11_ledger_7 (d : Nat) (h : MH) (l0 : Nat) (l1 : Int32) : mX (mE mtab d) KX11_ledger 7 [some (.ref l0), some (.int l1)] [] h = ck (kd h l0 = 12) (cI (mE mtab d 325 [.ref l0, .int l1] h) (fun x4 h3 => some (.int x4, h3))) := by
  refine mX_to 2 (k' := 9) (ls' := [some (.ref l0), some (.int l1)]) (st' := [.int l1, .ref l0]) (h' := h) rfl ?_
  refine mX_ckc (m := mcl (mE mtab d 325 [.ref l0, .int l1] h) 1 10 [some (.ref l0), some (.int l1)] []) rfl ?_
  refine mk_cI ?_
  intro x4 h3
  refine mX_to 1 (k' := 12) (ls' := [some (.ref l0), some (.int l1)]) (st' := [.int x4]) (h' := h3) rfl ?_
  exact mX_reti rfl
theorem D_X11_ledger (d : Nat) (h : MH) (a0 : Nat) (a1 : Int32) : mE mtab (d + 1) 328 [.ref a0, .int a1] h = (if a1 = (-1) then mX (mE mtab d) KX11_ledger 7 [some (.ref a0), some (.int a1)] [] h else ck (kd h a0 = 12) (cI (mE mtab d 20 [.ref a0, .int a1] h) (fun x2 h1 => (if x2 = 0 then some (.int (-2), h1) else mX (mE mtab d) KX11_ledger 7 [some (.ref a0), some (.int a1)] [] h1)))) := by
  refine mE_eq (q := (yX11_ledger, cX11_ledger, 2, (some .int), KX11_ledger)) (C := KX11_ledger) (ls := [some (.ref a0), some (.int a1)]) rfl rfl rfl rfl ?_
  refine mX_to 2 (k' := 2) (ls' := [some (.ref a0), some (.int a1)]) (st' := [.int (-1), .int a1]) (h' := h) rfl ?_
  refine mX_br (t := 7) (f := 3) (ls' := [some (.ref a0), some (.int a1)]) (st' := []) (h' := h) rfl ?_ ?_
  · rfl
  · refine mX_to 2 (k' := 5) (ls' := [some (.ref a0), some (.int a1)]) (st' := [.int a1, .ref a0]) (h' := h) rfl ?_
    refine mX_ckc (m := mcl (mE mtab d 20 [.ref a0, .int a1] h) 1 6 [some (.ref a0), some (.int a1)] []) rfl ?_
    refine mk_cI ?_
    intro x2 h1
    refine mX_br (t := 11) (f := 7) (ls' := [some (.ref a0), some (.int a1)]) (st' := []) (h' := h1) rfl ?_ ?_
    · refine mX_to 1 (k' := 12) (ls' := [some (.ref a0), some (.int a1)]) (st' := [.int (-2)]) (h' := h1) rfl ?_
      exact mX_reti rfl
    · rfl
theorem D_X6_copyFrom (d : Nat) (h : MH) (a0 : Nat) (a1 : Nat) : mE mtab (d + 1) 329 [.ref a0, .ref a1] h = ck (kd h a1 = 7) (ck (kd h a0 = 7) (ck (kd h (gR h a1 0) = 20 ∧ kd h (gR h a0 0) = 20 ∧ ¬ (0 : Int32) < 0 ∧ ¬ (0 : Int32) < 0 ∧ ¬ (1457 : Int32) < 0 ∧ ix (0 : Int32) + ix (1457 : Int32) ≤ ln h (gR h a1 0) ∧ ix (0 : Int32) + ix (1457 : Int32) ≤ ln h (gR h a0 0)) (lt_ (rI h (gR h a0 0) (va_cpy (gI h (gR h a1 0)) (gI h (gR h a0 0)) (ix (0 : Int32)) (ix (0 : Int32)) (ix (1457 : Int32)))) fun h1 => ck (kd h1 a1 = 7) (ck (kd h1 a0 = 7) (lt_ (sI h1 a0 1 (gI h1 a1 1)) fun h2 => ck (kd h2 a1 = 7) (ck (kd h2 a0 = 7) (lt_ (sI h2 a0 2 (gI h2 a1 2)) fun h3 => some (.int 0, h3)))))))) := by
  refine mE_eq (q := (yX6_copyFrom, cX6_copyFrom, 2, none, KX6_copyFrom)) (C := KX6_copyFrom) (ls := [some (.ref a0), some (.ref a1)]) rfl rfl rfl rfl ?_
  refine mX_to 1 (k' := 1) (ls' := [some (.ref a0), some (.ref a1)]) (st' := [.ref a1]) (h' := h) rfl ?_
  refine mX_ck (k' := 2) (ls' := [some (.ref a0), some (.ref a1)]) (st' := [.ref (gR h a1 0)]) (h' := h) rfl ?_
  refine mX_to 2 (k' := 4) (ls' := [some (.ref a0), some (.ref a1)]) (st' := [.ref a0, .int 0, .ref (gR h a1 0)]) (h' := h) rfl ?_
  refine mX_ck (k' := 5) (ls' := [some (.ref a0), some (.ref a1)]) (st' := [.ref (gR h a0 0), .int 0, .ref (gR h a1 0)]) (h' := h) rfl ?_
  refine mX_to 2 (k' := 7) (ls' := [some (.ref a0), some (.ref a1)]) (st' := [.int 1457, .int 0, .ref (gR h a0 0), .int 0, .ref (gR h a1 0)]) (h' := h) rfl ?_
  refine mX_ck (k' := 8) (ls' := [some (.ref a0), some (.ref a1)]) (st' := []) (h' := (rI h (gR h a0 0) (va_cpy (gI h (gR h a1 0)) (gI h (gR h a0 0)) (ix (0 : Int32)) (ix (0 : Int32)) (ix (1457 : Int32))))) rfl ?_
  refine lt_gen (X := fun h1 : MH => mX (mE mtab d) KX6_copyFrom 8 [some (.ref a0), some (.ref a1)] [] h1) fun h1 => ?_
  refine mX_to 2 (k' := 10) (ls' := [some (.ref a0), some (.ref a1)]) (st' := [.ref a1, .ref a0]) (h' := h1) rfl ?_
  refine mX_ck (k' := 11) (ls' := [some (.ref a0), some (.ref a1)]) (st' := [.int (gI h1 a1 1), .ref a0]) (h' := h1) rfl ?_
  refine mX_ck (k' := 12) (ls' := [some (.ref a0), some (.ref a1)]) (st' := []) (h' := (sI h1 a0 1 (gI h1 a1 1))) rfl ?_
  refine lt_gen (X := fun h2 : MH => mX (mE mtab d) KX6_copyFrom 12 [some (.ref a0), some (.ref a1)] [] h2) fun h2 => ?_
  refine mX_to 2 (k' := 14) (ls' := [some (.ref a0), some (.ref a1)]) (st' := [.ref a1, .ref a0]) (h' := h2) rfl ?_
  refine mX_ck (k' := 15) (ls' := [some (.ref a0), some (.ref a1)]) (st' := [.int (gI h2 a1 2), .ref a0]) (h' := h2) rfl ?_
  refine mX_ck (k' := 16) (ls' := [some (.ref a0), some (.ref a1)]) (st' := []) (h' := (sI h2 a0 2 (gI h2 a1 2))) rfl ?_
  refine lt_gen (X := fun h3 : MH => mX (mE mtab d) KX6_copyFrom 16 [some (.ref a0), some (.ref a1)] [] h3) fun h3 => ?_
  exact mX_ret rfl
theorem D_X2_copyFrom (d : Nat) (h : MH) (a0 : Nat) (a1 : Nat) : mE mtab (d + 1) 330 [.ref a0, .ref a1] h = ck (kd h a1 = 3) (ck (kd h a0 = 3) (ck (kd h (gR h a1 0) = 20 ∧ kd h (gR h a0 0) = 20 ∧ ¬ (0 : Int32) < 0 ∧ ¬ (0 : Int32) < 0 ∧ ¬ (4 : Int32) < 0 ∧ ix (0 : Int32) + ix (4 : Int32) ≤ ln h (gR h a1 0) ∧ ix (0 : Int32) + ix (4 : Int32) ≤ ln h (gR h a0 0)) (lt_ (rI h (gR h a0 0) (va_cpy (gI h (gR h a1 0)) (gI h (gR h a0 0)) (ix (0 : Int32)) (ix (0 : Int32)) (ix (4 : Int32)))) fun h1 => ck (kd h1 a1 = 3) (ck (kd h1 a0 = 3) (ck (kd h1 (gR h1 a1 1) = 20 ∧ kd h1 (gR h1 a0 1) = 20 ∧ ¬ (0 : Int32) < 0 ∧ ¬ (0 : Int32) < 0 ∧ ¬ (4 : Int32) < 0 ∧ ix (0 : Int32) + ix (4 : Int32) ≤ ln h1 (gR h1 a1 1) ∧ ix (0 : Int32) + ix (4 : Int32) ≤ ln h1 (gR h1 a0 1)) (lt_ (rI h1 (gR h1 a0 1) (va_cpy (gI h1 (gR h1 a1 1)) (gI h1 (gR h1 a0 1)) (ix (0 : Int32)) (ix (0 : Int32)) (ix (4 : Int32)))) fun h2 => ck (kd h2 a1 = 3) (ck (kd h2 a0 = 3) (lt_ (sI h2 a0 3 (gI h2 a1 3)) fun h3 => some (.int 0, h3))))))))) := by
  refine mE_eq (q := (yX2_copyFrom, cX2_copyFrom, 2, none, KX2_copyFrom)) (C := KX2_copyFrom) (ls := [some (.ref a0), some (.ref a1)]) rfl rfl rfl rfl ?_
  refine mX_to 1 (k' := 1) (ls' := [some (.ref a0), some (.ref a1)]) (st' := [.ref a1]) (h' := h) rfl ?_
  refine mX_ck (k' := 2) (ls' := [some (.ref a0), some (.ref a1)]) (st' := [.ref (gR h a1 0)]) (h' := h) rfl ?_
  refine mX_to 2 (k' := 4) (ls' := [some (.ref a0), some (.ref a1)]) (st' := [.ref a0, .int 0, .ref (gR h a1 0)]) (h' := h) rfl ?_
  refine mX_ck (k' := 5) (ls' := [some (.ref a0), some (.ref a1)]) (st' := [.ref (gR h a0 0), .int 0, .ref (gR h a1 0)]) (h' := h) rfl ?_
  refine mX_to 2 (k' := 7) (ls' := [some (.ref a0), some (.ref a1)]) (st' := [.int 4, .int 0, .ref (gR h a0 0), .int 0, .ref (gR h a1 0)]) (h' := h) rfl ?_
  refine mX_ck (k' := 8) (ls' := [some (.ref a0), some (.ref a1)]) (st' := []) (h' := (rI h (gR h a0 0) (va_cpy (gI h (gR h a1 0)) (gI h (gR h a0 0)) (ix (0 : Int32)) (ix (0 : Int32)) (ix (4 : Int32))))) rfl ?_
  refine lt_gen (X := fun h1 : MH => mX (mE mtab d) KX2_copyFrom 8 [some (.ref a0), some (.ref a1)] [] h1) fun h1 => ?_
  refine mX_to 1 (k' := 9) (ls' := [some (.ref a0), some (.ref a1)]) (st' := [.ref a1]) (h' := h1) rfl ?_
  refine mX_ck (k' := 10) (ls' := [some (.ref a0), some (.ref a1)]) (st' := [.ref (gR h1 a1 1)]) (h' := h1) rfl ?_
  refine mX_to 2 (k' := 12) (ls' := [some (.ref a0), some (.ref a1)]) (st' := [.ref a0, .int 0, .ref (gR h1 a1 1)]) (h' := h1) rfl ?_
  refine mX_ck (k' := 13) (ls' := [some (.ref a0), some (.ref a1)]) (st' := [.ref (gR h1 a0 1), .int 0, .ref (gR h1 a1 1)]) (h' := h1) rfl ?_
  refine mX_to 2 (k' := 15) (ls' := [some (.ref a0), some (.ref a1)]) (st' := [.int 4, .int 0, .ref (gR h1 a0 1), .int 0, .ref (gR h1 a1 1)]) (h' := h1) rfl ?_
  refine mX_ck (k' := 16) (ls' := [some (.ref a0), some (.ref a1)]) (st' := []) (h' := (rI h1 (gR h1 a0 1) (va_cpy (gI h1 (gR h1 a1 1)) (gI h1 (gR h1 a0 1)) (ix (0 : Int32)) (ix (0 : Int32)) (ix (4 : Int32))))) rfl ?_
  refine lt_gen (X := fun h2 : MH => mX (mE mtab d) KX2_copyFrom 16 [some (.ref a0), some (.ref a1)] [] h2) fun h2 => ?_
  refine mX_to 2 (k' := 18) (ls' := [some (.ref a0), some (.ref a1)]) (st' := [.ref a1, .ref a0]) (h' := h2) rfl ?_
  refine mX_ck (k' := 19) (ls' := [some (.ref a0), some (.ref a1)]) (st' := [.int (gI h2 a1 3), .ref a0]) (h' := h2) rfl ?_
  refine mX_ck (k' := 20) (ls' := [some (.ref a0), some (.ref a1)]) (st' := []) (h' := (sI h2 a0 3 (gI h2 a1 3))) rfl ?_
  refine lt_gen (X := fun h3 : MH => mX (mE mtab d) KX2_copyFrom 20 [some (.ref a0), some (.ref a1)] [] h3) fun h3 => ?_
  exact mX_ret rfl
theorem D_X0_copyFrom_17 (d : Nat) (h : MH) (l0 : Nat) (l1 : Nat) (l2 : Int32) : mX (mE mtab d) KX0_copyFrom 17 [some (.ref l0), some (.ref l1), some (.int l2)] [] h = (if l2 < 4 then ck (kd h l0 = 1) (ck (kd h l1 = 1) (ck (kd h (gR h l1 3) = 23 ∧ ib l2 (ln h (gR h l1 3))) (ck (kd h (gR h l0 3) = 23 ∧ ib l2 (ln h (gR h l0 3)) ∧ ((gR h (gR h l1 3) (ix l2)) = 0 ∨ kd h (gR h (gR h l1 3) (ix l2)) = 9)) (lt_ (sR h (gR h l0 3) (ix l2) (gR h (gR h l1 3) (ix l2))) fun h4 => mX (mE mtab d) KX0_copyFrom 17 [some (.ref l0), some (.ref l1), some (.int (l2 + 1))] [] h4)))) else ck (kd h l1 = 1) (ck (kd h l0 = 1) (lt_ (sI h l0 4 (gI h l1 4)) fun h6 => ck (kd h6 l1 = 1) (ck (kd h6 l0 = 1) (lt_ (sI h6 l0 5 (gI h6 l1 5)) fun h7 => ck (kd h7 l1 = 1) (ck (kd h7 l0 = 1) (ck (kd h7 (gR h7 l1 6) = 20 ∧ kd h7 (gR h7 l0 6) = 20 ∧ ¬ (0 : Int32) < 0 ∧ ¬ (0 : Int32) < 0 ∧ ¬ (8 : Int32) < 0 ∧ ix (0 : Int32) + ix (8 : Int32) ≤ ln h7 (gR h7 l1 6) ∧ ix (0 : Int32) + ix (8 : Int32) ≤ ln h7 (gR h7 l0 6)) (lt_ (rI h7 (gR h7 l0 6) (va_cpy (gI h7 (gR h7 l1 6)) (gI h7 (gR h7 l0 6)) (ix (0 : Int32)) (ix (0 : Int32)) (ix (8 : Int32)))) fun h8 => ck (kd h8 l1 = 1) (ck (kd h8 l0 = 1) (ck (kd h8 (gR h8 l1 7) = 20 ∧ kd h8 (gR h8 l0 7) = 20 ∧ ¬ (0 : Int32) < 0 ∧ ¬ (0 : Int32) < 0 ∧ ¬ (8 : Int32) < 0 ∧ ix (0 : Int32) + ix (8 : Int32) ≤ ln h8 (gR h8 l1 7) ∧ ix (0 : Int32) + ix (8 : Int32) ≤ ln h8 (gR h8 l0 7)) (lt_ (rI h8 (gR h8 l0 7) (va_cpy (gI h8 (gR h8 l1 7)) (gI h8 (gR h8 l0 7)) (ix (0 : Int32)) (ix (0 : Int32)) (ix (8 : Int32)))) fun h9 => ck (kd h9 l1 = 1) (ck (kd h9 l0 = 1) (lt_ (sI h9 l0 8 (gI h9 l1 8)) fun h10 => some (.int 0, h10)))))))))))))) := by
  refine mX_to 2 (k' := 19) (ls' := [some (.ref l0), some (.ref l1), some (.int l2)]) (st' := [.int 4, .int l2]) (h' := h) rfl ?_
  refine mX_br (t := 20) (f := 30) (ls' := [some (.ref l0), some (.ref l1), some (.int l2)]) (st' := []) (h' := h) rfl ?_ ?_
  · refine mX_to 1 (k' := 21) (ls' := [some (.ref l0), some (.ref l1), some (.int l2)]) (st' := [.ref l0]) (h' := h) rfl ?_
    refine mX_ck (k' := 22) (ls' := [some (.ref l0), some (.ref l1), some (.int l2)]) (st' := [.ref (gR h l0 3)]) (h' := h) rfl ?_
    refine mX_to 2 (k' := 24) (ls' := [some (.ref l0), some (.ref l1), some (.int l2)]) (st' := [.ref l1, .int l2, .ref (gR h l0 3)]) (h' := h) rfl ?_
    refine mX_ck (k' := 25) (ls' := [some (.ref l0), some (.ref l1), some (.int l2)]) (st' := [.ref (gR h l1 3), .int l2, .ref (gR h l0 3)]) (h' := h) rfl ?_
    refine mX_to 1 (k' := 26) (ls' := [some (.ref l0), some (.ref l1), some (.int l2)]) (st' := [.int l2, .ref (gR h l1 3), .int l2, .ref (gR h l0 3)]) (h' := h) rfl ?_
    refine mX_ck (k' := 27) (ls' := [some (.ref l0), some (.ref l1), some (.int l2)]) (st' := [.ref (gR h (gR h l1 3) (ix l2)), .int l2, .ref (gR h l0 3)]) (h' := h) rfl ?_
    refine mX_ck (k' := 28) (ls' := [some (.ref l0), some (.ref l1), some (.int l2)]) (st' := []) (h' := (sR h (gR h l0 3) (ix l2) (gR h (gR h l1 3) (ix l2)))) rfl ?_
    refine lt_gen (X := fun h4 : MH => mX (mE mtab d) KX0_copyFrom 28 [some (.ref l0), some (.ref l1), some (.int l2)] [] h4) fun h4 => ?_
    refine mX_to 2 (k' := 17) (ls' := [some (.ref l0), some (.ref l1), some (.int (l2 + 1))]) (st' := []) (h' := h4) rfl ?_
    rfl
  · refine mX_to 2 (k' := 32) (ls' := [some (.ref l0), some (.ref l1), some (.int l2)]) (st' := [.ref l1, .ref l0]) (h' := h) rfl ?_
    refine mX_ck (k' := 33) (ls' := [some (.ref l0), some (.ref l1), some (.int l2)]) (st' := [.int (gI h l1 4), .ref l0]) (h' := h) rfl ?_
    refine mX_ck (k' := 34) (ls' := [some (.ref l0), some (.ref l1), some (.int l2)]) (st' := []) (h' := (sI h l0 4 (gI h l1 4))) rfl ?_
    refine lt_gen (X := fun h6 : MH => mX (mE mtab d) KX0_copyFrom 34 [some (.ref l0), some (.ref l1), some (.int l2)] [] h6) fun h6 => ?_
    refine mX_to 2 (k' := 36) (ls' := [some (.ref l0), some (.ref l1), some (.int l2)]) (st' := [.ref l1, .ref l0]) (h' := h6) rfl ?_
    refine mX_ck (k' := 37) (ls' := [some (.ref l0), some (.ref l1), some (.int l2)]) (st' := [.int (gI h6 l1 5), .ref l0]) (h' := h6) rfl ?_
    refine mX_ck (k' := 38) (ls' := [some (.ref l0), some (.ref l1), some (.int l2)]) (st' := []) (h' := (sI h6 l0 5 (gI h6 l1 5))) rfl ?_
    refine lt_gen (X := fun h7 : MH => mX (mE mtab d) KX0_copyFrom 38 [some (.ref l0), some (.ref l1), some (.int l2)] [] h7) fun h7 => ?_
    refine mX_to 1 (k' := 39) (ls' := [some (.ref l0), some (.ref l1), some (.int l2)]) (st' := [.ref l1]) (h' := h7) rfl ?_
    refine mX_ck (k' := 40) (ls' := [some (.ref l0), some (.ref l1), some (.int l2)]) (st' := [.ref (gR h7 l1 6)]) (h' := h7) rfl ?_
    refine mX_to 2 (k' := 42) (ls' := [some (.ref l0), some (.ref l1), some (.int l2)]) (st' := [.ref l0, .int 0, .ref (gR h7 l1 6)]) (h' := h7) rfl ?_
    refine mX_ck (k' := 43) (ls' := [some (.ref l0), some (.ref l1), some (.int l2)]) (st' := [.ref (gR h7 l0 6), .int 0, .ref (gR h7 l1 6)]) (h' := h7) rfl ?_
    refine mX_to 2 (k' := 45) (ls' := [some (.ref l0), some (.ref l1), some (.int l2)]) (st' := [.int 8, .int 0, .ref (gR h7 l0 6), .int 0, .ref (gR h7 l1 6)]) (h' := h7) rfl ?_
    refine mX_ck (k' := 46) (ls' := [some (.ref l0), some (.ref l1), some (.int l2)]) (st' := []) (h' := (rI h7 (gR h7 l0 6) (va_cpy (gI h7 (gR h7 l1 6)) (gI h7 (gR h7 l0 6)) (ix (0 : Int32)) (ix (0 : Int32)) (ix (8 : Int32))))) rfl ?_
    refine lt_gen (X := fun h8 : MH => mX (mE mtab d) KX0_copyFrom 46 [some (.ref l0), some (.ref l1), some (.int l2)] [] h8) fun h8 => ?_
    refine mX_to 1 (k' := 47) (ls' := [some (.ref l0), some (.ref l1), some (.int l2)]) (st' := [.ref l1]) (h' := h8) rfl ?_
    refine mX_ck (k' := 48) (ls' := [some (.ref l0), some (.ref l1), some (.int l2)]) (st' := [.ref (gR h8 l1 7)]) (h' := h8) rfl ?_
    refine mX_to 2 (k' := 50) (ls' := [some (.ref l0), some (.ref l1), some (.int l2)]) (st' := [.ref l0, .int 0, .ref (gR h8 l1 7)]) (h' := h8) rfl ?_
    refine mX_ck (k' := 51) (ls' := [some (.ref l0), some (.ref l1), some (.int l2)]) (st' := [.ref (gR h8 l0 7), .int 0, .ref (gR h8 l1 7)]) (h' := h8) rfl ?_
    refine mX_to 2 (k' := 53) (ls' := [some (.ref l0), some (.ref l1), some (.int l2)]) (st' := [.int 8, .int 0, .ref (gR h8 l0 7), .int 0, .ref (gR h8 l1 7)]) (h' := h8) rfl ?_
    refine mX_ck (k' := 54) (ls' := [some (.ref l0), some (.ref l1), some (.int l2)]) (st' := []) (h' := (rI h8 (gR h8 l0 7) (va_cpy (gI h8 (gR h8 l1 7)) (gI h8 (gR h8 l0 7)) (ix (0 : Int32)) (ix (0 : Int32)) (ix (8 : Int32))))) rfl ?_
    refine lt_gen (X := fun h9 : MH => mX (mE mtab d) KX0_copyFrom 54 [some (.ref l0), some (.ref l1), some (.int l2)] [] h9) fun h9 => ?_
    refine mX_to 2 (k' := 56) (ls' := [some (.ref l0), some (.ref l1), some (.int l2)]) (st' := [.ref l1, .ref l0]) (h' := h9) rfl ?_
    refine mX_ck (k' := 57) (ls' := [some (.ref l0), some (.ref l1), some (.int l2)]) (st' := [.int (gI h9 l1 8), .ref l0]) (h' := h9) rfl ?_
    refine mX_ck (k' := 58) (ls' := [some (.ref l0), some (.ref l1), some (.int l2)]) (st' := []) (h' := (sI h9 l0 8 (gI h9 l1 8))) rfl ?_
    refine lt_gen (X := fun h10 : MH => mX (mE mtab d) KX0_copyFrom 58 [some (.ref l0), some (.ref l1), some (.int l2)] [] h10) fun h10 => ?_
    exact mX_ret rfl
theorem D_X0_copyFrom (d : Nat) (h : MH) (a0 : Nat) (a1 : Nat) : mE mtab (d + 1) 331 [.ref a0, .ref a1] h = ck (kd h a0 = 1) (ck (kd h a1 = 1) (ck (kd h (gR h a0 0) = 10) (cV (mE mtab d 225 [.ref (gR h a0 0), .ref (gR h a1 0)] h) (fun h1 => ck (kd h1 a0 = 1) (ck (kd h1 a1 = 1) (ck (kd h1 (gR h1 a0 1) = 7) (cV (mE mtab d 329 [.ref (gR h1 a0 1), .ref (gR h1 a1 1)] h1) (fun h2 => ck (kd h2 a0 = 1) (ck (kd h2 a1 = 1) (ck (kd h2 (gR h2 a0 2) = 3) (cV (mE mtab d 330 [.ref (gR h2 a0 2), .ref (gR h2 a1 2)] h2) (fun h3 => mX (mE mtab d) KX0_copyFrom 17 [some (.ref a0), some (.ref a1), some (.int 0)] [] h3)))))))))))) := by
  refine mE_eq (q := (yX0_copyFrom, cX0_copyFrom, 3, none, KX0_copyFrom)) (C := KX0_copyFrom) (ls := [some (.ref a0), some (.ref a1), none]) rfl rfl rfl rfl ?_
  refine mX_to 1 (k' := 1) (ls' := [some (.ref a0), some (.ref a1), none]) (st' := [.ref a0]) (h' := h) rfl ?_
  refine mX_ck (k' := 2) (ls' := [some (.ref a0), some (.ref a1), none]) (st' := [.ref (gR h a0 0)]) (h' := h) rfl ?_
  refine mX_to 1 (k' := 3) (ls' := [some (.ref a0), some (.ref a1), none]) (st' := [.ref a1, .ref (gR h a0 0)]) (h' := h) rfl ?_
  refine mX_ck (k' := 4) (ls' := [some (.ref a0), some (.ref a1), none]) (st' := [.ref (gR h a1 0), .ref (gR h a0 0)]) (h' := h) rfl ?_
  refine mX_ckc (m := mcl (mE mtab d 225 [.ref (gR h a0 0), .ref (gR h a1 0)] h) 0 5 [some (.ref a0), some (.ref a1), none] []) rfl ?_
  refine mk_cV ?_
  intro h1
  refine mX_to 1 (k' := 6) (ls' := [some (.ref a0), some (.ref a1), none]) (st' := [.ref a0]) (h' := h1) rfl ?_
  refine mX_ck (k' := 7) (ls' := [some (.ref a0), some (.ref a1), none]) (st' := [.ref (gR h1 a0 1)]) (h' := h1) rfl ?_
  refine mX_to 1 (k' := 8) (ls' := [some (.ref a0), some (.ref a1), none]) (st' := [.ref a1, .ref (gR h1 a0 1)]) (h' := h1) rfl ?_
  refine mX_ck (k' := 9) (ls' := [some (.ref a0), some (.ref a1), none]) (st' := [.ref (gR h1 a1 1), .ref (gR h1 a0 1)]) (h' := h1) rfl ?_
  refine mX_ckc (m := mcl (mE mtab d 329 [.ref (gR h1 a0 1), .ref (gR h1 a1 1)] h1) 0 10 [some (.ref a0), some (.ref a1), none] []) rfl ?_
  refine mk_cV ?_
  intro h2
  refine mX_to 1 (k' := 11) (ls' := [some (.ref a0), some (.ref a1), none]) (st' := [.ref a0]) (h' := h2) rfl ?_
  refine mX_ck (k' := 12) (ls' := [some (.ref a0), some (.ref a1), none]) (st' := [.ref (gR h2 a0 2)]) (h' := h2) rfl ?_
  refine mX_to 1 (k' := 13) (ls' := [some (.ref a0), some (.ref a1), none]) (st' := [.ref a1, .ref (gR h2 a0 2)]) (h' := h2) rfl ?_
  refine mX_ck (k' := 14) (ls' := [some (.ref a0), some (.ref a1), none]) (st' := [.ref (gR h2 a1 2), .ref (gR h2 a0 2)]) (h' := h2) rfl ?_
  refine mX_ckc (m := mcl (mE mtab d 330 [.ref (gR h2 a0 2), .ref (gR h2 a1 2)] h2) 0 15 [some (.ref a0), some (.ref a1), none] []) rfl ?_
  refine mk_cV ?_
  intro h3
  refine mX_to 2 (k' := 17) (ls' := [some (.ref a0), some (.ref a1), some (.int 0)]) (st' := []) (h' := h3) rfl ?_
  rfl
theorem D_X10_image (d : Nat) (h : MH) (a0 : Nat) : mE mtab (d + 1) 332 [.ref a0] h = ck (kd h a0 = 11) (ck (kd h a0 = 11) (ck (kd h (gR h a0 1) = 1) (cV (mE mtab d 331 [.ref (gR h a0 1), .ref (gR h a0 0)] h) (fun h1 => ck (kd h1 a0 = 11) (ck (kd h1 (gR h1 a0 0) = 1) (ck (kd h1 (gR h1 (gR h1 a0 0) 0) = 10) (some (.int (gI h1 (gR h1 (gR h1 a0 0) 0) 5), h1)))))))) := by
  refine mE_eq (q := (yX10_image, cX10_image, 1, (some .int), KX10_image)) (C := KX10_image) (ls := [some (.ref a0)]) rfl rfl rfl rfl ?_
  refine mX_to 1 (k' := 1) (ls' := [some (.ref a0)]) (st' := [.ref a0]) (h' := h) rfl ?_
  refine mX_ck (k' := 2) (ls' := [some (.ref a0)]) (st' := [.ref (gR h a0 1)]) (h' := h) rfl ?_
  refine mX_to 1 (k' := 3) (ls' := [some (.ref a0)]) (st' := [.ref a0, .ref (gR h a0 1)]) (h' := h) rfl ?_
  refine mX_ck (k' := 4) (ls' := [some (.ref a0)]) (st' := [.ref (gR h a0 0), .ref (gR h a0 1)]) (h' := h) rfl ?_
  refine mX_ckc (m := mcl (mE mtab d 331 [.ref (gR h a0 1), .ref (gR h a0 0)] h) 0 5 [some (.ref a0)] []) rfl ?_
  refine mk_cV ?_
  intro h1
  refine mX_to 1 (k' := 6) (ls' := [some (.ref a0)]) (st' := [.ref a0]) (h' := h1) rfl ?_
  refine mX_ck (k' := 7) (ls' := [some (.ref a0)]) (st' := [.ref (gR h1 a0 0)]) (h' := h1) rfl ?_
  refine mX_ck (k' := 8) (ls' := [some (.ref a0)]) (st' := [.ref (gR h1 (gR h1 a0 0) 0)]) (h' := h1) rfl ?_
  refine mX_ck (k' := 9) (ls' := [some (.ref a0)]) (st' := [.int (gI h1 (gR h1 (gR h1 a0 0) 0) 5)]) (h' := h1) rfl ?_
  exact mX_reti rfl
theorem D_X11_image (d : Nat) (h : MH) (a0 : Nat) : mE mtab (d + 1) 333 [.ref a0] h = ck (kd h a0 = 12) (ck (kd h a0 = 12) (cV (mE mtab d 9 [.ref (gR h a0 0), .ref (gR h a0 1)] h) (fun h1 => ck (kd h1 a0 = 12) (ck ((kd h1 (gR h1 a0 0) = 20 ∨ kd h1 (gR h1 a0 0) = 24) ∧ ib (6 : Int32) (ln h1 (gR h1 a0 0))) (some (.int (gI h1 (gR h1 a0 0) (ix (6 : Int32))), h1)))))) := by
  refine mE_eq (q := (yX11_image, cX11_image, 1, (some .int), KX11_image)) (C := KX11_image) (ls := [some (.ref a0)]) rfl rfl rfl rfl ?_
  refine mX_to 1 (k' := 1) (ls' := [some (.ref a0)]) (st' := [.ref a0]) (h' := h) rfl ?_
  refine mX_ck (k' := 2) (ls' := [some (.ref a0)]) (st' := [.ref (gR h a0 0)]) (h' := h) rfl ?_
  refine mX_to 1 (k' := 3) (ls' := [some (.ref a0)]) (st' := [.ref a0, .ref (gR h a0 0)]) (h' := h) rfl ?_
  refine mX_ck (k' := 4) (ls' := [some (.ref a0)]) (st' := [.ref (gR h a0 1), .ref (gR h a0 0)]) (h' := h) rfl ?_
  refine mX_cV (o := mE mtab d 9 [.ref (gR h a0 0), .ref (gR h a0 1)] h) (k' := 5) (ls' := [some (.ref a0)]) (st' := []) rfl ?_
  intro h1
  refine mX_to 1 (k' := 6) (ls' := [some (.ref a0)]) (st' := [.ref a0]) (h' := h1) rfl ?_
  refine mX_ck (k' := 7) (ls' := [some (.ref a0)]) (st' := [.ref (gR h1 a0 0)]) (h' := h1) rfl ?_
  refine mX_to 1 (k' := 8) (ls' := [some (.ref a0)]) (st' := [.int 6, .ref (gR h1 a0 0)]) (h' := h1) rfl ?_
  refine mX_ck (k' := 9) (ls' := [some (.ref a0)]) (st' := [.int (gI h1 (gR h1 a0 0) (ix (6 : Int32)))]) (h' := h1) rfl ?_
  exact mX_reti rfl
theorem D_X10_back (d : Nat) (h : MH) (a0 : Nat) : mE mtab (d + 1) 334 [.ref a0] h = ck (kd h a0 = 11) (ck (kd h a0 = 11) (ck (kd h (gR h a0 0) = 1) (cV (mE mtab d 331 [.ref (gR h a0 0), .ref (gR h a0 1)] h) (fun h1 => ck (kd h1 a0 = 11) (ck (kd h1 (gR h1 a0 0) = 1) (ck (kd h1 (gR h1 (gR h1 a0 0) 0) = 10) (some (.int (gI h1 (gR h1 (gR h1 a0 0) 0) 5), h1)))))))) := by
  refine mE_eq (q := (yX10_back, cX10_back, 1, (some .int), KX10_back)) (C := KX10_back) (ls := [some (.ref a0)]) rfl rfl rfl rfl ?_
  refine mX_to 1 (k' := 1) (ls' := [some (.ref a0)]) (st' := [.ref a0]) (h' := h) rfl ?_
  refine mX_ck (k' := 2) (ls' := [some (.ref a0)]) (st' := [.ref (gR h a0 0)]) (h' := h) rfl ?_
  refine mX_to 1 (k' := 3) (ls' := [some (.ref a0)]) (st' := [.ref a0, .ref (gR h a0 0)]) (h' := h) rfl ?_
  refine mX_ck (k' := 4) (ls' := [some (.ref a0)]) (st' := [.ref (gR h a0 1), .ref (gR h a0 0)]) (h' := h) rfl ?_
  refine mX_ckc (m := mcl (mE mtab d 331 [.ref (gR h a0 0), .ref (gR h a0 1)] h) 0 5 [some (.ref a0)] []) rfl ?_
  refine mk_cV ?_
  intro h1
  refine mX_to 1 (k' := 6) (ls' := [some (.ref a0)]) (st' := [.ref a0]) (h' := h1) rfl ?_
  refine mX_ck (k' := 7) (ls' := [some (.ref a0)]) (st' := [.ref (gR h1 a0 0)]) (h' := h1) rfl ?_
  refine mX_ck (k' := 8) (ls' := [some (.ref a0)]) (st' := [.ref (gR h1 (gR h1 a0 0) 0)]) (h' := h1) rfl ?_
  refine mX_ck (k' := 9) (ls' := [some (.ref a0)]) (st' := [.int (gI h1 (gR h1 (gR h1 a0 0) 0) 5)]) (h' := h1) rfl ?_
  exact mX_reti rfl
theorem D_X11_back (d : Nat) (h : MH) (a0 : Nat) : mE mtab (d + 1) 335 [.ref a0] h = ck (kd h a0 = 12) (ck (kd h a0 = 12) (cV (mE mtab d 9 [.ref (gR h a0 1), .ref (gR h a0 0)] h) (fun h1 => ck (kd h1 a0 = 12) (ck ((kd h1 (gR h1 a0 0) = 20 ∨ kd h1 (gR h1 a0 0) = 24) ∧ ib (6 : Int32) (ln h1 (gR h1 a0 0))) (some (.int (gI h1 (gR h1 a0 0) (ix (6 : Int32))), h1)))))) := by
  refine mE_eq (q := (yX11_back, cX11_back, 1, (some .int), KX11_back)) (C := KX11_back) (ls := [some (.ref a0)]) rfl rfl rfl rfl ?_
  refine mX_to 1 (k' := 1) (ls' := [some (.ref a0)]) (st' := [.ref a0]) (h' := h) rfl ?_
  refine mX_ck (k' := 2) (ls' := [some (.ref a0)]) (st' := [.ref (gR h a0 1)]) (h' := h) rfl ?_
  refine mX_to 1 (k' := 3) (ls' := [some (.ref a0)]) (st' := [.ref a0, .ref (gR h a0 1)]) (h' := h) rfl ?_
  refine mX_ck (k' := 4) (ls' := [some (.ref a0)]) (st' := [.ref (gR h a0 0), .ref (gR h a0 1)]) (h' := h) rfl ?_
  refine mX_cV (o := mE mtab d 9 [.ref (gR h a0 1), .ref (gR h a0 0)] h) (k' := 5) (ls' := [some (.ref a0)]) (st' := []) rfl ?_
  intro h1
  refine mX_to 1 (k' := 6) (ls' := [some (.ref a0)]) (st' := [.ref a0]) (h' := h1) rfl ?_
  refine mX_ck (k' := 7) (ls' := [some (.ref a0)]) (st' := [.ref (gR h1 a0 0)]) (h' := h1) rfl ?_
  refine mX_to 1 (k' := 8) (ls' := [some (.ref a0)]) (st' := [.int 6, .ref (gR h1 a0 0)]) (h' := h1) rfl ?_
  refine mX_ck (k' := 9) (ls' := [some (.ref a0)]) (st' := [.int (gI h1 (gR h1 a0 0) (ix (6 : Int32)))]) (h' := h1) rfl ?_
  exact mX_reti rfl
theorem D_X10_about (d : Nat) (h : MH) (a0 : Nat) (a1 : Int32) : mE mtab (d + 1) 336 [.ref a0, .int a1] h = (if a1 = 0 then ck (kd h a0 = 11) (ck (kd h (gR h a0 0) = 1) (ck (kd h (gR h (gR h a0 0) 0) = 10) (some (.int (gI h (gR h (gR h a0 0) 0) 0), h)))) else (if a1 = 1 then ck (kd h a0 = 11) (ck (kd h (gR h a0 0) = 1) (ck (kd h (gR h (gR h a0 0) 2) = 3) (some (.int (gI h (gR h (gR h a0 0) 2) 3), h)))) else (if a1 = 2 then ck (kd h a0 = 11) (ck (kd h (gR h a0 0) = 1) (some (.int (gI h (gR h a0 0) 4), h))) else (if a1 = 3 then ck (kd h a0 = 11) (ck (kd h (gR h a0 0) = 1) (some (.int (gI h (gR h a0 0) 5), h))) else (if a1 = 4 then ck (kd h a0 = 11) (ck (kd h (gR h a0 0) = 1) (ck (kd h (gR h (gR h a0 0) 1) = 7) (some (.int (gI h (gR h (gR h a0 0) 1) 2), h)))) else (if a1 = 5 then ck (kd h a0 = 11) (ck (kd h (gR h a0 0) = 1) (some (.int (gI h (gR h a0 0) 8), h))) else (if a1 = 6 then ck (kd h a0 = 11) (ck (kd h (gR h a0 3) = 8) (some (.int (gI h (gR h a0 3) 1), h))) else some (.int (-2), h)))))))) := by
  refine mE_eq (q := (yX10_about, cX10_about, 2, (some .int), KX10_about)) (C := KX10_about) (ls := [some (.ref a0), some (.int a1)]) rfl rfl rfl rfl ?_
  refine mX_to 1 (k' := 1) (ls' := [some (.ref a0), some (.int a1)]) (st' := [.int a1]) (h' := h) rfl ?_
  refine mX_sw (x := a1) (t := 33) (sw := [(0, 2), (1, 7), (2, 12), (3, 16), (4, 20), (5, 25), (6, 29)]) (ls' := [some (.ref a0), some (.int a1)]) (st' := []) (h' := h) rfl ?_
  refine msw_cons ?_ ?_
  · refine mX_to 1 (k' := 3) (ls' := [some (.ref a0), some (.int a1)]) (st' := [.ref a0]) (h' := h) rfl ?_
    refine mX_ck (k' := 4) (ls' := [some (.ref a0), some (.int a1)]) (st' := [.ref (gR h a0 0)]) (h' := h) rfl ?_
    refine mX_ck (k' := 5) (ls' := [some (.ref a0), some (.int a1)]) (st' := [.ref (gR h (gR h a0 0) 0)]) (h' := h) rfl ?_
    refine mX_ck (k' := 6) (ls' := [some (.ref a0), some (.int a1)]) (st' := [.int (gI h (gR h (gR h a0 0) 0) 0)]) (h' := h) rfl ?_
    exact mX_reti rfl
  refine msw_cons ?_ ?_
  · refine mX_to 1 (k' := 8) (ls' := [some (.ref a0), some (.int a1)]) (st' := [.ref a0]) (h' := h) rfl ?_
    refine mX_ck (k' := 9) (ls' := [some (.ref a0), some (.int a1)]) (st' := [.ref (gR h a0 0)]) (h' := h) rfl ?_
    refine mX_ck (k' := 10) (ls' := [some (.ref a0), some (.int a1)]) (st' := [.ref (gR h (gR h a0 0) 2)]) (h' := h) rfl ?_
    refine mX_ck (k' := 11) (ls' := [some (.ref a0), some (.int a1)]) (st' := [.int (gI h (gR h (gR h a0 0) 2) 3)]) (h' := h) rfl ?_
    exact mX_reti rfl
  refine msw_cons ?_ ?_
  · refine mX_to 1 (k' := 13) (ls' := [some (.ref a0), some (.int a1)]) (st' := [.ref a0]) (h' := h) rfl ?_
    refine mX_ck (k' := 14) (ls' := [some (.ref a0), some (.int a1)]) (st' := [.ref (gR h a0 0)]) (h' := h) rfl ?_
    refine mX_ck (k' := 15) (ls' := [some (.ref a0), some (.int a1)]) (st' := [.int (gI h (gR h a0 0) 4)]) (h' := h) rfl ?_
    exact mX_reti rfl
  refine msw_cons ?_ ?_
  · refine mX_to 1 (k' := 17) (ls' := [some (.ref a0), some (.int a1)]) (st' := [.ref a0]) (h' := h) rfl ?_
    refine mX_ck (k' := 18) (ls' := [some (.ref a0), some (.int a1)]) (st' := [.ref (gR h a0 0)]) (h' := h) rfl ?_
    refine mX_ck (k' := 19) (ls' := [some (.ref a0), some (.int a1)]) (st' := [.int (gI h (gR h a0 0) 5)]) (h' := h) rfl ?_
    exact mX_reti rfl
  refine msw_cons ?_ ?_
  · refine mX_to 1 (k' := 21) (ls' := [some (.ref a0), some (.int a1)]) (st' := [.ref a0]) (h' := h) rfl ?_
    refine mX_ck (k' := 22) (ls' := [some (.ref a0), some (.int a1)]) (st' := [.ref (gR h a0 0)]) (h' := h) rfl ?_
    refine mX_ck (k' := 23) (ls' := [some (.ref a0), some (.int a1)]) (st' := [.ref (gR h (gR h a0 0) 1)]) (h' := h) rfl ?_
    refine mX_ck (k' := 24) (ls' := [some (.ref a0), some (.int a1)]) (st' := [.int (gI h (gR h (gR h a0 0) 1) 2)]) (h' := h) rfl ?_
    exact mX_reti rfl
  refine msw_cons ?_ ?_
  · refine mX_to 1 (k' := 26) (ls' := [some (.ref a0), some (.int a1)]) (st' := [.ref a0]) (h' := h) rfl ?_
    refine mX_ck (k' := 27) (ls' := [some (.ref a0), some (.int a1)]) (st' := [.ref (gR h a0 0)]) (h' := h) rfl ?_
    refine mX_ck (k' := 28) (ls' := [some (.ref a0), some (.int a1)]) (st' := [.int (gI h (gR h a0 0) 8)]) (h' := h) rfl ?_
    exact mX_reti rfl
  refine msw_cons ?_ ?_
  · refine mX_to 1 (k' := 30) (ls' := [some (.ref a0), some (.int a1)]) (st' := [.ref a0]) (h' := h) rfl ?_
    refine mX_ck (k' := 31) (ls' := [some (.ref a0), some (.int a1)]) (st' := [.ref (gR h a0 3)]) (h' := h) rfl ?_
    refine mX_ck (k' := 32) (ls' := [some (.ref a0), some (.int a1)]) (st' := [.int (gI h (gR h a0 3) 1)]) (h' := h) rfl ?_
    exact mX_reti rfl
  refine msw_nil ?_
  refine mX_to 1 (k' := 34) (ls' := [some (.ref a0), some (.int a1)]) (st' := [.int (-2)]) (h' := h) rfl ?_
  exact mX_reti rfl
theorem D_X11_about (d : Nat) (h : MH) (a0 : Nat) (a1 : Int32) : mE mtab (d + 1) 337 [.ref a0, .int a1] h = cI (mE mtab d 14 [.int a1, .int 0, .int 5] h) (fun x2 h1 => (if x2 = 0 then (if a1 = 6 then ck (kd h1 a0 = 12) (some (.int (gI h1 a0 4), h1)) else some (.int (-2), h1)) else ck (kd h1 a0 = 12) (ck ((kd h1 (gR h1 a0 0) = 20 ∨ kd h1 (gR h1 a0 0) = 24) ∧ ib a1 (ln h1 (gR h1 a0 0))) (some (.int (gI h1 (gR h1 a0 0) (ix a1)), h1))))) := by
  refine mE_eq (q := (yX11_about, cX11_about, 2, (some .int), KX11_about)) (C := KX11_about) (ls := [some (.ref a0), some (.int a1)]) rfl rfl rfl rfl ?_
  refine mX_to 3 (k' := 3) (ls' := [some (.ref a0), some (.int a1)]) (st' := [.int 5, .int 0, .int a1]) (h' := h) rfl ?_
  refine mX_cI (o := mE mtab d 14 [.int a1, .int 0, .int 5] h) (k' := 4) (ls' := [some (.ref a0), some (.int a1)]) (st' := []) rfl ?_
  intro x2 h1
  refine mX_br (t := 10) (f := 5) (ls' := [some (.ref a0), some (.int a1)]) (st' := []) (h' := h1) rfl ?_ ?_
  · refine mX_to 2 (k' := 12) (ls' := [some (.ref a0), some (.int a1)]) (st' := [.int 6, .int a1]) (h' := h1) rfl ?_
    refine mX_br (t := 13) (f := 16) (ls' := [some (.ref a0), some (.int a1)]) (st' := []) (h' := h1) rfl ?_ ?_
    · refine mX_to 1 (k' := 14) (ls' := [some (.ref a0), some (.int a1)]) (st' := [.ref a0]) (h' := h1) rfl ?_
      refine mX_ck (k' := 15) (ls' := [some (.ref a0), some (.int a1)]) (st' := [.int (gI h1 a0 4)]) (h' := h1) rfl ?_
      refine mX_to 1 (k' := 17) (ls' := [some (.ref a0), some (.int a1)]) (st' := [.int (gI h1 a0 4)]) (h' := h1) rfl ?_
      exact mX_reti rfl
    · refine mX_to 1 (k' := 17) (ls' := [some (.ref a0), some (.int a1)]) (st' := [.int (-2)]) (h' := h1) rfl ?_
      exact mX_reti rfl
  · refine mX_to 1 (k' := 6) (ls' := [some (.ref a0), some (.int a1)]) (st' := [.ref a0]) (h' := h1) rfl ?_
    refine mX_ck (k' := 7) (ls' := [some (.ref a0), some (.int a1)]) (st' := [.ref (gR h1 a0 0)]) (h' := h1) rfl ?_
    refine mX_to 1 (k' := 8) (ls' := [some (.ref a0), some (.int a1)]) (st' := [.int a1, .ref (gR h1 a0 0)]) (h' := h1) rfl ?_
    refine mX_ck (k' := 9) (ls' := [some (.ref a0), some (.int a1)]) (st' := [.int (gI h1 (gR h1 a0 0) (ix a1))]) (h' := h1) rfl ?_
    refine mX_to 1 (k' := 17) (ls' := [some (.ref a0), some (.int a1)]) (st' := [.int (gI h1 (gR h1 a0 0) (ix a1))]) (h' := h1) rfl ?_
    exact mX_reti rfl
