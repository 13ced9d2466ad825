/-! EQUATIONS OF THE METHODS (written by wip/gen/dgen.py) -/
theorem D_X10_slips_21 (d : Nat) (h : MH) (l0 : Nat) (l1 : Int32) (l2 : Int32) (l3 : Int32) (l4 : Int32) (l5 : Int32) (l6 : Int32) : mX (mE mtab d) KX10_slips 21 [some (.ref l0), some (.int l1), some (.int l2), some (.int l3), some (.int l4), some (.int l5), some (.int l6)] [] h = (if l6 < 512 then cI (mE mtab d 296 [.int l6] h) (fun x8 h7 => (if (jabs (l3 + (l1 * x8))) ≤ l4 then mX (mE mtab d) KX10_slips 34 [some (.ref l0), some (.int l1), some (.int l2), some (.int l3), some (.int l4), some (.int l5), some (.int l6)] [] h7 else mX (mE mtab d) KX10_slips 34 [some (.ref l0), some (.int l1), some (.int l2), some (.int l3), some (.int l4), some (.int (l5 + 1)), some (.int l6)] [] h7)) else cI (mE mtab d 291 [.int l5, .int 512] h) (fun x11 h10 => (if l2 = 0 then mX (mE mtab d) KX10_slips 45 [some (.ref l0), some (.int l1), some (.int l2), some (.int l3), some (.int l4), some (.int l5), some (.int x11)] [.int l5] h10 else mX (mE mtab d) KX10_slips 45 [some (.ref l0), some (.int l1), some (.int l2), some (.int l3), some (.int l4), some (.int l5), some (.int x11)] [.int 512] h10))) := by
  refine mX_to 2 (k' := 23) (ls' := [some (.ref l0), some (.int l1), some (.int l2), some (.int l3), some (.int l4), some (.int l5), some (.int l6)]) (st' := [.int 512, .int l6]) (h' := h) rfl ?_
  refine mX_br (t := 24) (f := 36) (ls' := [some (.ref l0), some (.int l1), some (.int l2), some (.int l3), some (.int l4), some (.int l5), some (.int l6)]) (st' := []) (h' := h) rfl ?_ ?_
  · refine mX_to 3 (k' := 27) (ls' := [some (.ref l0), some (.int l1), some (.int l2), some (.int l3), some (.int l4), some (.int l5), some (.int l6)]) (st' := [.int l6, .int l1, .int l3]) (h' := h) rfl ?_
    refine mX_cI (o := mE mtab d 296 [.int l6] h) (k' := 28) (ls' := [some (.ref l0), some (.int l1), some (.int l2), some (.int l3), some (.int l4), some (.int l5), some (.int l6)]) (st' := [.int l1, .int l3]) rfl ?_
    intro x8 h7
    refine mX_to 4 (k' := 32) (ls' := [some (.ref l0), some (.int l1), some (.int l2), some (.int l3), some (.int l4), some (.int l5), some (.int l6)]) (st' := [.int l4, .int (jabs (l3 + (l1 * x8)))]) (h' := h7) rfl ?_
    refine mX_br (t := 34) (f := 33) (ls' := [some (.ref l0), some (.int l1), some (.int l2), some (.int l3), some (.int l4), some (.int l5), some (.int l6)]) (st' := []) (h' := h7) rfl ?_ ?_
    · rfl
    · refine mX_to 1 (k' := 34) (ls' := [some (.ref l0), some (.int l1), some (.int l2), some (.int l3), some (.int l4), some (.int (l5 + 1)), some (.int l6)]) (st' := []) (h' := h7) rfl ?_
      rfl
  · refine mX_to 2 (k' := 38) (ls' := [some (.ref l0), some (.int l1), some (.int l2), some (.int l3), some (.int l4), some (.int l5), some (.int l6)]) (st' := [.int 512, .int l5]) (h' := h) rfl ?_
    refine mX_cI (o := mE mtab d 291 [.int l5, .int 512] h) (k' := 39) (ls' := [some (.ref l0), some (.int l1), some (.int l2), some (.int l3), some (.int l4), some (.int l5), some (.int l6)]) (st' := []) rfl ?_
    intro x11 h10
    refine mX_to 2 (k' := 41) (ls' := [some (.ref l0), some (.int l1), some (.int l2), some (.int l3), some (.int l4), some (.int l5), some (.int x11)]) (st' := [.int l2]) (h' := h10) rfl ?_
    refine mX_br (t := 44) (f := 42) (ls' := [some (.ref l0), some (.int l1), some (.int l2), some (.int l3), some (.int l4), some (.int l5), some (.int x11)]) (st' := []) (h' := h10) rfl ?_ ?_
    · refine mX_to 1 (k' := 45) (ls' := [some (.ref l0), some (.int l1), some (.int l2), some (.int l3), some (.int l4), some (.int l5), some (.int x11)]) (st' := [.int l5]) (h' := h10) rfl ?_
      rfl
    · refine mX_to 2 (k' := 45) (ls' := [some (.ref l0), some (.int l1), some (.int l2), some (.int l3), some (.int l4), some (.int l5), some (.int x11)]) (st' := [.int 512]) (h' := h10) rfl ?_
      rfl
theorem D_X10_slips_34 (d : Nat) (h : MH) (l0 : Nat) (l1 : Int32) (l2 : Int32) (l3 : Int32) (l4 : Int32) (l5 : Int32) (l6 : Int32) : mX (mE mtab d) KX10_slips 34 [some (.ref l0), some (.int l1), some (.int l2), some (.int l3), some (.int l4), some (.int l5), some (.int l6)] [] h = mX (mE mtab d) KX10_slips 21 [some (.ref l0), some (.int l1), some (.int l2), some (.int l3), some (.int l4), some (.int l5), some (.int (l6 + 1))] [] h := by
  refine mX_to 2 (k' := 21) (ls' := [some (.ref l0), some (.int l1), some (.int l2), some (.int l3), some (.int l4), some (.int l5), some (.int (l6 + 1))]) (st' := []) (h' := h) rfl ?_
  rfl
theorem D_X10_slips_45 (d : Nat) (h : MH) (l0 : Nat) (l1 : Int32) (l2 : Int32) (l3 : Int32) (l4 : Int32) (l5 : Int32) (l6 : Int32) (s0 : Int32) : mX (mE mtab d) KX10_slips 45 [some (.ref l0), some (.int l1), some (.int l2), some (.int l3), some (.int l4), some (.int l5), some (.int l6)] [.int s0] h = ck (¬ l6 = 0) (some (.int (s0 / l6), h)) := by
  refine mX_to 1 (k' := 46) (ls' := [some (.ref l0), some (.int l1), some (.int l2), some (.int l3), some (.int l4), some (.int l5), some (.int l6)]) (st' := [.int l6, .int s0]) (h' := h) rfl ?_
  refine mX_ck (k' := 47) (ls' := [some (.ref l0), some (.int l1), some (.int l2), some (.int l3), some (.int l4), some (.int l5), some (.int l6)]) (st' := [.int (s0 / l6)]) (h' := h) rfl ?_
  exact mX_reti rfl
theorem D_X10_slips (d : Nat) (h : MH) (a0 : Nat) (a1 : Int32) (a2 : Int32) : mE mtab (d + 1) 297 [.ref a0, .int a1, .int a2] h = cI (mE mtab d 11 [.int a1, .int 1, .int 9] h) (fun x2 h1 => (if x2 = 0 then some (.int (-1), h1) else ck (kd h1 a0 = 11) (ck (kd h1 (gR h1 a0 0) = 1) (ck (kd h1 (gR h1 (gR h1 a0 0) 0) = 10) (cI (mE mtab d 139 [.ref (gR h1 (gR h1 a0 0) 0)] h1) (fun x4 h3 => ck (kd h3 a0 = 11) (ck (kd h3 (gR h3 a0 0) = 1) (ck (kd h3 (gR h3 (gR h3 a0 0) 0) = 10) (cI (mE mtab d 145 [.ref (gR h3 (gR h3 a0 0) 0)] h3) (fun x6 h5 => mX (mE mtab d) KX10_slips 21 [some (.ref a0), some (.int a1), some (.int a2), some (.int x4), some (.int x6), some (.int 0), some (.int 0)] [] h5)))))))))) := by
  refine mE_eq (q := (yX10_slips, cX10_slips, 7, (some .int), KX10_slips)) (C := KX10_slips) (ls := [some (.ref a0), some (.int a1), some (.int a2), none, none, none, none]) rfl rfl rfl rfl ?_
  refine mX_to 3 (k' := 3) (ls' := [some (.ref a0), some (.int a1), some (.int a2), none, none, none, none]) (st' := [.int 9, .int 1, .int a1]) (h' := h) rfl ?_
  refine mX_cI (o := mE mtab d 11 [.int a1, .int 1, .int 9] h) (k' := 4) (ls' := [some (.ref a0), some (.int a1), some (.int a2), none, none, none, none]) (st' := []) rfl ?_
  intro x2 h1
  refine mX_br (t := 5) (f := 7) (ls' := [some (.ref a0), some (.int a1), some (.int a2), none, none, none, none]) (st' := []) (h' := h1) rfl ?_ ?_
  · refine mX_to 1 (k' := 6) (ls' := [some (.ref a0), some (.int a1), some (.int a2), none, none, none, none]) (st' := [.int (-1)]) (h' := h1) rfl ?_
    exact mX_reti rfl
  · refine mX_to 1 (k' := 8) (ls' := [some (.ref a0), some (.int a1), some (.int a2), none, none, none, none]) (st' := [.ref a0]) (h' := h1) rfl ?_
    refine mX_ck (k' := 9) (ls' := [some (.ref a0), some (.int a1), some (.int a2), none, none, none, none]) (st' := [.ref (gR h1 a0 0)]) (h' := h1) rfl ?_
    refine mX_ck (k' := 10) (ls' := [some (.ref a0), some (.int a1), some (.int a2), none, none, none, none]) (st' := [.ref (gR h1 (gR h1 a0 0) 0)]) (h' := h1) rfl ?_
    refine mX_ckc (m := mcl (mE mtab d 139 [.ref (gR h1 (gR h1 a0 0) 0)] h1) 1 11 [some (.ref a0), some (.int a1), some (.int a2), none, none, none, none] []) rfl ?_
    refine mk_cI ?_
    intro x4 h3
    refine mX_to 2 (k' := 13) (ls' := [some (.ref a0), some (.int a1), some (.int a2), some (.int x4), none, none, none]) (st' := [.ref a0]) (h' := h3) rfl ?_
    refine mX_ck (k' := 14) (ls' := [some (.ref a0), some (.int a1), some (.int a2), some (.int x4), none, none, none]) (st' := [.ref (gR h3 a0 0)]) (h' := h3) rfl ?_
    refine mX_ck (k' := 15) (ls' := [some (.ref a0), some (.int a1), some (.int a2), some (.int x4), none, none, none]) (st' := [.ref (gR h3 (gR h3 a0 0) 0)]) (h' := h3) rfl ?_
    refine mX_ckc (m := mcl (mE mtab d 145 [.ref (gR h3 (gR h3 a0 0) 0)] h3) 1 16 [some (.ref a0), some (.int a1), some (.int a2), some (.int x4), none, none, none] []) rfl ?_
    refine mk_cI ?_
    intro x6 h5
    refine mX_to 5 (k' := 21) (ls' := [some (.ref a0), some (.int a1), some (.int a2), some (.int x4), some (.int x6), some (.int 0), some (.int 0)]) (st' := []) (h' := h5) rfl ?_
    rfl
theorem D_X11_slips_14 (d : Nat) (h : MH) (l0 : Nat) (l1 : Int32) (l2 : Int32) (l3 : Int32) (l4 : Int32) (l5 : Int32) (o6 : Option Value) (o7 : Option Value) : mX (mE mtab d) KX11_slips 14 [some (.ref l0), some (.int l1), some (.int l2), some (.int l3), some (.int l4), some (.int l5), o6, o7] [] h = (if l5 < 512 then ck (kd h l0 = 12) (cI (mE mtab d 156 [.ref l0] h) (fun x6 h5 => mX (mE mtab d) KX11_slips 22 [some (.ref l0), some (.int l1), some (.int l2), some (.int l3), some (.int l4), some (.int l5), some (.int x6), some (.int 0)] [] h5)) else (if l2 = 0 then mX (mE mtab d) KX11_slips 58 [some (.ref l0), some (.int l1), some (.int l2), some (.int l3), some (.int l4), some (.int l5), o6, o7] [.int l4] h else mX (mE mtab d) KX11_slips 58 [some (.ref l0), some (.int l1), some (.int l2), some (.int l3), some (.int l4), some (.int l5), o6, o7] [.int 512] h)) := by
  refine mX_to 2 (k' := 16) (ls' := [some (.ref l0), some (.int l1), some (.int l2), some (.int l3), some (.int l4), some (.int l5), o6, o7]) (st' := [.int 512, .int l5]) (h' := h) rfl ?_
  refine mX_br (t := 17) (f := 53) (ls' := [some (.ref l0), some (.int l1), some (.int l2), some (.int l3), some (.int l4), some (.int l5), o6, o7]) (st' := []) (h' := h) rfl ?_ ?_
  · refine mX_to 1 (k' := 18) (ls' := [some (.ref l0), some (.int l1), some (.int l2), some (.int l3), some (.int l4), some (.int l5), o6, o7]) (st' := [.ref l0]) (h' := h) rfl ?_
    refine mX_ckc (m := mcl (mE mtab d 156 [.ref l0] h) 1 19 [some (.ref l0), some (.int l1), some (.int l2), some (.int l3), some (.int l4), some (.int l5), o6, o7] []) rfl ?_
    refine mk_cI ?_
    intro x6 h5
    refine mX_to 3 (k' := 22) (ls' := [some (.ref l0), some (.int l1), some (.int l2), some (.int l3), some (.int l4), some (.int l5), some (.int x6), some (.int 0)]) (st' := []) (h' := h5) rfl ?_
    rfl
  · refine mX_to 1 (k' := 54) (ls' := [some (.ref l0), some (.int l1), some (.int l2), some (.int l3), some (.int l4), some (.int l5), o6, o7]) (st' := [.int l2]) (h' := h) rfl ?_
    refine mX_br (t := 57) (f := 55) (ls' := [some (.ref l0), some (.int l1), some (.int l2), some (.int l3), some (.int l4), some (.int l5), o6, o7]) (st' := []) (h' := h) rfl ?_ ?_
    · refine mX_to 1 (k' := 58) (ls' := [some (.ref l0), some (.int l1), some (.int l2), some (.int l3), some (.int l4), some (.int l5), o6, o7]) (st' := [.int l4]) (h' := h) rfl ?_
      rfl
    · refine mX_to 2 (k' := 58) (ls' := [some (.ref l0), some (.int l1), some (.int l2), some (.int l3), some (.int l4), some (.int l5), o6, o7]) (st' := [.int 512]) (h' := h) rfl ?_
      rfl
theorem D_X11_slips_22 (d : Nat) (h : MH) (l0 : Nat) (l1 : Int32) (l2 : Int32) (l3 : Int32) (l4 : Int32) (l5 : Int32) (l6 : Int32) (l7 : Int32) : mX (mE mtab d) KX11_slips 22 [some (.ref l0), some (.int l1), some (.int l2), some (.int l3), some (.int l4), some (.int l5), some (.int l6), some (.int l7)] [] h = (if l7 < 9 then cI (mE mtab d 108 [.int l5, .int l7] h) (fun x8 h7 => (if x8 = 0 then mX (mE mtab d) KX11_slips 37 [some (.ref l0), some (.int l1), some (.int l2), some (.int l3), some (.int l4), some (.int l5), some (.int l6), some (.int l7)] [.int 0, .int l6] h7 else mX (mE mtab d) KX11_slips 37 [some (.ref l0), some (.int l1), some (.int l2), some (.int l3), some (.int l4), some (.int l5), some (.int l6), some (.int l7)] [.int (l1 * (l7 - 4)), .int l6] h7)) else cI (mE mtab d 157 [.int l6] h) (fun x10 h9 => (if x10 ≤ l3 then mX (mE mtab d) KX11_slips 49 [some (.ref l0), some (.int l1), some (.int l2), some (.int l3), some (.int l4), some (.int l5), some (.int l6), some (.int l7)] [.int 0, .int l4] h9 else mX (mE mtab d) KX11_slips 49 [some (.ref l0), some (.int l1), some (.int l2), some (.int l3), some (.int l4), some (.int l5), some (.int l6), some (.int l7)] [.int 1, .int l4] h9))) := by
  refine mX_to 2 (k' := 24) (ls' := [some (.ref l0), some (.int l1), some (.int l2), some (.int l3), some (.int l4), some (.int l5), some (.int l6), some (.int l7)]) (st' := [.int 9, .int l7]) (h' := h) rfl ?_
  refine mX_br (t := 25) (f := 41) (ls' := [some (.ref l0), some (.int l1), some (.int l2), some (.int l3), some (.int l4), some (.int l5), some (.int l6), some (.int l7)]) (st' := []) (h' := h) rfl ?_ ?_
  · refine mX_to 3 (k' := 28) (ls' := [some (.ref l0), some (.int l1), some (.int l2), some (.int l3), some (.int l4), some (.int l5), some (.int l6), some (.int l7)]) (st' := [.int l7, .int l5, .int l6]) (h' := h) rfl ?_
    refine mX_cI (o := mE mtab d 108 [.int l5, .int l7] h) (k' := 29) (ls' := [some (.ref l0), some (.int l1), some (.int l2), some (.int l3), some (.int l4), some (.int l5), some (.int l6), some (.int l7)]) (st' := [.int l6]) rfl ?_
    intro x8 h7
    refine mX_br (t := 36) (f := 30) (ls' := [some (.ref l0), some (.int l1), some (.int l2), some (.int l3), some (.int l4), some (.int l5), some (.int l6), some (.int l7)]) (st' := [.int l6]) (h' := h7) rfl ?_ ?_
    · refine mX_to 1 (k' := 37) (ls' := [some (.ref l0), some (.int l1), some (.int l2), some (.int l3), some (.int l4), some (.int l5), some (.int l6), some (.int l7)]) (st' := [.int 0, .int l6]) (h' := h7) rfl ?_
      rfl
    · refine mX_to 6 (k' := 37) (ls' := [some (.ref l0), some (.int l1), some (.int l2), some (.int l3), some (.int l4), some (.int l5), some (.int l6), some (.int l7)]) (st' := [.int (l1 * (l7 - 4)), .int l6]) (h' := h7) rfl ?_
      rfl
  · refine mX_to 2 (k' := 43) (ls' := [some (.ref l0), some (.int l1), some (.int l2), some (.int l3), some (.int l4), some (.int l5), some (.int l6), some (.int l7)]) (st' := [.int l6, .int l4]) (h' := h) rfl ?_
    refine mX_cI (o := mE mtab d 157 [.int l6] h) (k' := 44) (ls' := [some (.ref l0), some (.int l1), some (.int l2), some (.int l3), some (.int l4), some (.int l5), some (.int l6), some (.int l7)]) (st' := [.int l4]) rfl ?_
    intro x10 h9
    refine mX_to 1 (k' := 45) (ls' := [some (.ref l0), some (.int l1), some (.int l2), some (.int l3), some (.int l4), some (.int l5), some (.int l6), some (.int l7)]) (st' := [.int l3, .int x10, .int l4]) (h' := h9) rfl ?_
    refine mX_br (t := 48) (f := 46) (ls' := [some (.ref l0), some (.int l1), some (.int l2), some (.int l3), some (.int l4), some (.int l5), some (.int l6), some (.int l7)]) (st' := [.int l4]) (h' := h9) rfl ?_ ?_
    · refine mX_to 1 (k' := 49) (ls' := [some (.ref l0), some (.int l1), some (.int l2), some (.int l3), some (.int l4), some (.int l5), some (.int l6), some (.int l7)]) (st' := [.int 0, .int l4]) (h' := h9) rfl ?_
      rfl
    · refine mX_to 2 (k' := 49) (ls' := [some (.ref l0), some (.int l1), some (.int l2), some (.int l3), some (.int l4), some (.int l5), some (.int l6), some (.int l7)]) (st' := [.int 1, .int l4]) (h' := h9) rfl ?_
      rfl
theorem D_X11_slips_58 (d : Nat) (h : MH) (l0 : Nat) (l1 : Int32) (l2 : Int32) (l3 : Int32) (l4 : Int32) (l5 : Int32) (o6 : Option Value) (o7 : Option Value) (s0 : Int32) : mX (mE mtab d) KX11_slips 58 [some (.ref l0), some (.int l1), some (.int l2), some (.int l3), some (.int l4), some (.int l5), o6, o7] [.int s0] h = cI (mE mtab d 294 [.int l4, .int 512] h) (fun x12 h11 => ck (¬ x12 = 0) (some (.int (s0 / x12), h11))) := by
  refine mX_to 2 (k' := 60) (ls' := [some (.ref l0), some (.int l1), some (.int l2), some (.int l3), some (.int l4), some (.int l5), o6, o7]) (st' := [.int 512, .int l4, .int s0]) (h' := h) rfl ?_
  refine mX_cI (o := mE mtab d 294 [.int l4, .int 512] h) (k' := 61) (ls' := [some (.ref l0), some (.int l1), some (.int l2), some (.int l3), some (.int l4), some (.int l5), o6, o7]) (st' := [.int s0]) rfl ?_
  intro x12 h11
  refine mX_ck (k' := 62) (ls' := [some (.ref l0), some (.int l1), some (.int l2), some (.int l3), some (.int l4), some (.int l5), o6, o7]) (st' := [.int (s0 / x12)]) (h' := h11) rfl ?_
  exact mX_reti rfl
theorem D_X11_slips_37 (d : Nat) (h : MH) (l0 : Nat) (l1 : Int32) (l2 : Int32) (l3 : Int32) (l4 : Int32) (l5 : Int32) (l6 : Int32) (l7 : Int32) (s0 : Int32) (s1 : Int32) : mX (mE mtab d) KX11_slips 37 [some (.ref l0), some (.int l1), some (.int l2), some (.int l3), some (.int l4), some (.int l5), some (.int l6), some (.int l7)] [.int s0, .int s1] h = lt_ (s1 + s0) fun v13 => mX (mE mtab d) KX11_slips 22 [some (.ref l0), some (.int l1), some (.int l2), some (.int l3), some (.int l4), some (.int l5), some (.int v13), some (.int (l7 + 1))] [] h := by
  refine mX_to 1 (k' := 38) (ls' := [some (.ref l0), some (.int l1), some (.int l2), some (.int l3), some (.int l4), some (.int l5), some (.int l6), some (.int l7)]) (st' := [.int (s1 + s0)]) (h' := h) rfl ?_
  refine lt_gen (X := fun v13 : Int32 => mX (mE mtab d) KX11_slips 38 [some (.ref l0), some (.int l1), some (.int l2), some (.int l3), some (.int l4), some (.int l5), some (.int l6), some (.int l7)] [.int v13] h) fun v13 => ?_
  refine mX_to 3 (k' := 22) (ls' := [some (.ref l0), some (.int l1), some (.int l2), some (.int l3), some (.int l4), some (.int l5), some (.int v13), some (.int (l7 + 1))]) (st' := []) (h' := h) rfl ?_
  rfl
theorem D_X11_slips_49 (d : Nat) (h : MH) (l0 : Nat) (l1 : Int32) (l2 : Int32) (l3 : Int32) (l4 : Int32) (l5 : Int32) (l6 : Int32) (l7 : Int32) (s0 : Int32) (s1 : Int32) : mX (mE mtab d) KX11_slips 49 [some (.ref l0), some (.int l1), some (.int l2), some (.int l3), some (.int l4), some (.int l5), some (.int l6), some (.int l7)] [.int s0, .int s1] h = lt_ (s1 + s0) fun v15 => mX (mE mtab d) KX11_slips 14 [some (.ref l0), some (.int l1), some (.int l2), some (.int l3), some (.int v15), some (.int (l5 + 1)), some (.int l6), some (.int l7)] [] h := by
  refine mX_to 1 (k' := 50) (ls' := [some (.ref l0), some (.int l1), some (.int l2), some (.int l3), some (.int l4), some (.int l5), some (.int l6), some (.int l7)]) (st' := [.int (s1 + s0)]) (h' := h) rfl ?_
  refine lt_gen (X := fun v15 : Int32 => mX (mE mtab d) KX11_slips 50 [some (.ref l0), some (.int l1), some (.int l2), some (.int l3), some (.int l4), some (.int l5), some (.int l6), some (.int l7)] [.int v15] h) fun v15 => ?_
  refine mX_to 3 (k' := 14) (ls' := [some (.ref l0), some (.int l1), some (.int l2), some (.int l3), some (.int v15), some (.int (l5 + 1)), some (.int l6), some (.int l7)]) (st' := []) (h' := h) rfl ?_
  rfl
theorem D_X11_slips (d : Nat) (h : MH) (a0 : Nat) (a1 : Int32) (a2 : Int32) : mE mtab (d + 1) 298 [.ref a0, .int a1, .int a2] h = cI (mE mtab d 14 [.int a1, .int 1, .int 9] h) (fun x2 h1 => (if x2 = 0 then some (.int (-1), h1) else ck (kd h1 a0 = 12) (cI (mE mtab d 172 [.ref a0] h1) (fun x4 h3 => mX (mE mtab d) KX11_slips 14 [some (.ref a0), some (.int a1), some (.int a2), some (.int x4), some (.int 0), some (.int 0), none, none] [] h3)))) := by
  refine mE_eq (q := (yX11_slips, cX11_slips, 8, (some .int), KX11_slips)) (C := KX11_slips) (ls := [some (.ref a0), some (.int a1), some (.int a2), none, none, none, none, none]) rfl rfl rfl rfl ?_
  refine mX_to 3 (k' := 3) (ls' := [some (.ref a0), some (.int a1), some (.int a2), none, none, none, none, none]) (st' := [.int 9, .int 1, .int a1]) (h' := h) rfl ?_
  refine mX_cI (o := mE mtab d 14 [.int a1, .int 1, .int 9] h) (k' := 4) (ls' := [some (.ref a0), some (.int a1), some (.int a2), none, none, none, none, none]) (st' := []) rfl ?_
  intro x2 h1
  refine mX_br (t := 5) (f := 7) (ls' := [some (.ref a0), some (.int a1), some (.int a2), none, none, none, none, none]) (st' := []) (h' := h1) rfl ?_ ?_
  · refine mX_to 1 (k' := 6) (ls' := [some (.ref a0), some (.int a1), some (.int a2), none, none, none, none, none]) (st' := [.int (-1)]) (h' := h1) rfl ?_
    exact mX_reti rfl
  · refine mX_to 1 (k' := 8) (ls' := [some (.ref a0), some (.int a1), some (.int a2), none, none, none, none, none]) (st' := [.ref a0]) (h' := h1) rfl ?_
    refine mX_ckc (m := mcl (mE mtab d 172 [.ref a0] h1) 1 9 [some (.ref a0), some (.int a1), some (.int a2), none, none, none, none, none] []) rfl ?_
    refine mk_cI ?_
    intro x4 h3
    refine mX_to 5 (k' := 14) (ls' := [some (.ref a0), some (.int a1), some (.int a2), some (.int x4), some (.int 0), some (.int 0), none, none]) (st' := []) (h' := h3) rfl ?_
    rfl
theorem D_X9_weightOf_4 (d : Nat) (h : MH) (l0 : Nat) (l1 : Int32) (l2 : Int32) (l3 : Int32) : mX (mE mtab d) KX9_weightOf 4 [some (.ref l0), some (.int l1), some (.int l2), some (.int l3)] [] h = ck (kd h l0 = 10) ((if l3 < (gI h l0 0) then cI (mE mtab d 257 [.int l1, .int l3] h) (fun x2 h1 => (if x2 = 0 then mX (mE mtab d) KX9_weightOf 19 [some (.ref l0), some (.int l1), some (.int l2), some (.int l3)] [] h1 else ck (kd h1 l0 = 10) (ck ((kd h1 (gR h1 l0 1) = 20 ∨ kd h1 (gR h1 l0 1) = 24) ∧ ib l3 (ln h1 (gR h1 l0 1))) (lt_ (l2 + (gI h1 (gR h1 l0 1) (ix l3))) fun v3 => mX (mE mtab d) KX9_weightOf 19 [some (.ref l0), some (.int l1), some (.int v3), some (.int l3)] [] h1)))) else some (.int l2, h))) := by
  refine mX_to 2 (k' := 6) (ls' := [some (.ref l0), some (.int l1), some (.int l2), some (.int l3)]) (st' := [.ref l0, .int l3]) (h' := h) rfl ?_
  refine mX_ck (k' := 7) (ls' := [some (.ref l0), some (.int l1), some (.int l2), some (.int l3)]) (st' := [.int (gI h l0 0), .int l3]) (h' := h) rfl ?_
  refine mX_br (t := 8) (f := 21) (ls' := [some (.ref l0), some (.int l1), some (.int l2), some (.int l3)]) (st' := []) (h' := h) rfl ?_ ?_
  · refine mX_to 2 (k' := 10) (ls' := [some (.ref l0), some (.int l1), some (.int l2), some (.int l3)]) (st' := [.int l3, .int l1]) (h' := h) rfl ?_
    refine mX_cI (o := mE mtab d 257 [.int l1, .int l3] h) (k' := 11) (ls' := [some (.ref l0), some (.int l1), some (.int l2), some (.int l3)]) (st' := []) rfl ?_
    intro x2 h1
    refine mX_br (t := 19) (f := 12) (ls' := [some (.ref l0), some (.int l1), some (.int l2), some (.int l3)]) (st' := []) (h' := h1) rfl ?_ ?_
    · rfl
    · refine mX_to 2 (k' := 14) (ls' := [some (.ref l0), some (.int l1), some (.int l2), some (.int l3)]) (st' := [.ref l0, .int l2]) (h' := h1) rfl ?_
      refine mX_ck (k' := 15) (ls' := [some (.ref l0), some (.int l1), some (.int l2), some (.int l3)]) (st' := [.ref (gR h1 l0 1), .int l2]) (h' := h1) rfl ?_
      refine mX_to 1 (k' := 16) (ls' := [some (.ref l0), some (.int l1), some (.int l2), some (.int l3)]) (st' := [.int l3, .ref (gR h1 l0 1), .int l2]) (h' := h1) rfl ?_
      refine mX_ck (k' := 17) (ls' := [some (.ref l0), some (.int l1), some (.int l2), some (.int l3)]) (st' := [.int (gI h1 (gR h1 l0 1) (ix l3)), .int l2]) (h' := h1) rfl ?_
      refine mX_to 1 (k' := 18) (ls' := [some (.ref l0), some (.int l1), some (.int l2), some (.int l3)]) (st' := [.int (l2 + (gI h1 (gR h1 l0 1) (ix l3)))]) (h' := h1) rfl ?_
      refine lt_gen (X := fun v3 : Int32 => mX (mE mtab d) KX9_weightOf 18 [some (.ref l0), some (.int l1), some (.int l2), some (.int l3)] [.int v3] h1) fun v3 => ?_
      refine mX_to 1 (k' := 19) (ls' := [some (.ref l0), some (.int l1), some (.int v3), some (.int l3)]) (st' := []) (h' := h1) rfl ?_
      rfl
  · refine mX_to 1 (k' := 22) (ls' := [some (.ref l0), some (.int l1), some (.int l2), some (.int l3)]) (st' := [.int l2]) (h' := h) rfl ?_
    exact mX_reti rfl
theorem D_X9_weightOf_19 (d : Nat) (h : MH) (l0 : Nat) (l1 : Int32) (l2 : Int32) (l3 : Int32) : mX (mE mtab d) KX9_weightOf 19 [some (.ref l0), some (.int l1), some (.int l2), some (.int l3)] [] h = mX (mE mtab d) KX9_weightOf 4 [some (.ref l0), some (.int l1), some (.int l2), some (.int (l3 + 1))] [] h := by
  refine mX_to 2 (k' := 4) (ls' := [some (.ref l0), some (.int l1), some (.int l2), some (.int (l3 + 1))]) (st' := []) (h' := h) rfl ?_
  rfl
theorem D_X9_weightOf (d : Nat) (h : MH) (a0 : Nat) (a1 : Int32) : mE mtab (d + 1) 299 [.ref a0, .int a1] h = mX (mE mtab d) KX9_weightOf 4 [some (.ref a0), some (.int a1), some (.int 0), some (.int 0)] [] h := by
  refine mE_eq (q := (yX9_weightOf, cX9_weightOf, 4, (some .int), KX9_weightOf)) (C := KX9_weightOf) (ls := [some (.ref a0), some (.int a1), none, none]) rfl rfl rfl rfl ?_
  refine mX_to 4 (k' := 4) (ls' := [some (.ref a0), some (.int a1), some (.int 0), some (.int 0)]) (st' := []) (h' := h) rfl ?_
  rfl
theorem D_X10_halves_28 (d : Nat) (h : MH) (l0 : Nat) (l1 : Int32) (l2 : Int32) (l3 : Int32) (l4 : Int32) (l5 : Int32) (l6 : Int32) (o7 : Option Value) : mX (mE mtab d) KX10_halves 28 [some (.ref l0), some (.int l1), some (.int l2), some (.int l3), some (.int l4), some (.int l5), some (.int l6), o7] [] h = (if l6 ≤ l2 then ck (kd h l0 = 11) (ck (kd h (gR h l0 0) = 1) (ck (kd h (gR h (gR h l0 0) 0) = 10) (cI (mE mtab d 299 [.ref (gR h (gR h l0 0) 0), .int l6] h) (fun x7 h6 => lt_ (jabs (l3 - (2 * x7))) fun v8 => (if v8 < l4 then mX (mE mtab d) KX10_halves 49 [some (.ref l0), some (.int l1), some (.int l2), some (.int l3), some (.int v8), some (.int l6), some (.int l6), some (.int v8)] [] h6 else mX (mE mtab d) KX10_halves 49 [some (.ref l0), some (.int l1), some (.int l2), some (.int l3), some (.int l4), some (.int l5), some (.int l6), some (.int v8)] [] h6))))) else (if l1 = 0 then some (.int l4, h) else some (.int l5, h))) := by
  refine mX_to 2 (k' := 30) (ls' := [some (.ref l0), some (.int l1), some (.int l2), some (.int l3), some (.int l4), some (.int l5), some (.int l6), o7]) (st' := [.int l2, .int l6]) (h' := h) rfl ?_
  refine mX_br (t := 31) (f := 51) (ls' := [some (.ref l0), some (.int l1), some (.int l2), some (.int l3), some (.int l4), some (.int l5), some (.int l6), o7]) (st' := []) (h' := h) rfl ?_ ?_
  · refine mX_to 3 (k' := 34) (ls' := [some (.ref l0), some (.int l1), some (.int l2), some (.int l3), some (.int l4), some (.int l5), some (.int l6), o7]) (st' := [.ref l0, .int 2, .int l3]) (h' := h) rfl ?_
    refine mX_ck (k' := 35) (ls' := [some (.ref l0), some (.int l1), some (.int l2), some (.int l3), some (.int l4), some (.int l5), some (.int l6), o7]) (st' := [.ref (gR h l0 0), .int 2, .int l3]) (h' := h) rfl ?_
    refine mX_ck (k' := 36) (ls' := [some (.ref l0), some (.int l1), some (.int l2), some (.int l3), some (.int l4), some (.int l5), some (.int l6), o7]) (st' := [.ref (gR h (gR h l0 0) 0), .int 2, .int l3]) (h' := h) rfl ?_
    refine mX_to 1 (k' := 37) (ls' := [some (.ref l0), some (.int l1), some (.int l2), some (.int l3), some (.int l4), some (.int l5), some (.int l6), o7]) (st' := [.int l6, .ref (gR h (gR h l0 0) 0), .int 2, .int l3]) (h' := h) rfl ?_
    refine mX_ckc (m := mcl (mE mtab d 299 [.ref (gR h (gR h l0 0) 0), .int l6] h) 1 38 [some (.ref l0), some (.int l1), some (.int l2), some (.int l3), some (.int l4), some (.int l5), some (.int l6), o7] [.int 2, .int l3]) rfl ?_
    refine mk_cI ?_
    intro x7 h6
    refine mX_to 3 (k' := 41) (ls' := [some (.ref l0), some (.int l1), some (.int l2), some (.int l3), some (.int l4), some (.int l5), some (.int l6), o7]) (st' := [.int (jabs (l3 - (2 * x7)))]) (h' := h6) rfl ?_
    refine lt_gen (X := fun v8 : Int32 => mX (mE mtab d) KX10_halves 41 [some (.ref l0), some (.int l1), some (.int l2), some (.int l3), some (.int l4), some (.int l5), some (.int l6), o7] [.int v8] h6) fun v8 => ?_
    refine mX_to 3 (k' := 44) (ls' := [some (.ref l0), some (.int l1), some (.int l2), some (.int l3), some (.int l4), some (.int l5), some (.int l6), some (.int v8)]) (st' := [.int l4, .int v8]) (h' := h6) rfl ?_
    refine mX_br (t := 45) (f := 49) (ls' := [some (.ref l0), some (.int l1), some (.int l2), some (.int l3), some (.int l4), some (.int l5), some (.int l6), some (.int v8)]) (st' := []) (h' := h6) rfl ?_ ?_
    · refine mX_to 4 (k' := 49) (ls' := [some (.ref l0), some (.int l1), some (.int l2), some (.int l3), some (.int v8), some (.int l6), some (.int l6), some (.int v8)]) (st' := []) (h' := h6) rfl ?_
      rfl
    · rfl
  · refine mX_to 1 (k' := 52) (ls' := [some (.ref l0), some (.int l1), some (.int l2), some (.int l3), some (.int l4), some (.int l5), some (.int l6), o7]) (st' := [.int l1]) (h' := h) rfl ?_
    refine mX_br (t := 53) (f := 55) (ls' := [some (.ref l0), some (.int l1), some (.int l2), some (.int l3), some (.int l4), some (.int l5), some (.int l6), o7]) (st' := []) (h' := h) rfl ?_ ?_
    · refine mX_to 2 (k' := 56) (ls' := [some (.ref l0), some (.int l1), some (.int l2), some (.int l3), some (.int l4), some (.int l5), some (.int l6), o7]) (st' := [.int l4]) (h' := h) rfl ?_
      exact mX_reti rfl
    · refine mX_to 1 (k' := 56) (ls' := [some (.ref l0), some (.int l1), some (.int l2), some (.int l3), some (.int l4), some (.int l5), some (.int l6), o7]) (st' := [.int l5]) (h' := h) rfl ?_
      exact mX_reti rfl
theorem D_X10_halves_49 (d : Nat) (h : MH) (l0 : Nat) (l1 : Int32) (l2 : Int32) (l3 : Int32) (l4 : Int32) (l5 : Int32) (l6 : Int32) (l7 : Int32) : mX (mE mtab d) KX10_halves 49 [some (.ref l0), some (.int l1), some (.int l2), some (.int l3), some (.int l4), some (.int l5), some (.int l6), some (.int l7)] [] h = mX (mE mtab d) KX10_halves 28 [some (.ref l0), some (.int l1), some (.int l2), some (.int l3), some (.int l4), some (.int l5), some (.int (l6 + 1)), some (.int l7)] [] h := by
  refine mX_to 2 (k' := 28) (ls' := [some (.ref l0), some (.int l1), some (.int l2), some (.int l3), some (.int l4), some (.int l5), some (.int (l6 + 1)), some (.int l7)]) (st' := []) (h' := h) rfl ?_
  rfl
theorem D_X10_halves (d : Nat) (h : MH) (a0 : Nat) (a1 : Int32) : mE mtab (d + 1) 300 [.ref a0, .int a1] h = cI (mE mtab d 11 [.int a1, .int 0, .int 1] h) (fun x2 h1 => (if x2 = 0 then some (.int (-1), h1) else ck (kd h1 a0 = 11) (ck (kd h1 (gR h1 a0 0) = 1) (ck (kd h1 (gR h1 (gR h1 a0 0) 0) = 10) (lt_ ((1 <<< ((gI h1 (gR h1 (gR h1 a0 0) 0) 0) &&& 31)) - 1) fun v3 => ck (kd h1 a0 = 11) (ck (kd h1 (gR h1 a0 0) = 1) (ck (kd h1 (gR h1 (gR h1 a0 0) 0) = 10) (cI (mE mtab d 299 [.ref (gR h1 (gR h1 a0 0) 0), .int v3] h1) (fun x5 h4 => mX (mE mtab d) KX10_halves 28 [some (.ref a0), some (.int a1), some (.int v3), some (.int x5), some (.int x5), some (.int 0), some (.int 0), none] [] h4))))))))) := by
  refine mE_eq (q := (yX10_halves, cX10_halves, 8, (some .int), KX10_halves)) (C := KX10_halves) (ls := [some (.ref a0), some (.int a1), none, none, none, none, none, none]) rfl rfl rfl rfl ?_
  refine mX_to 3 (k' := 3) (ls' := [some (.ref a0), some (.int a1), none, none, none, none, none, none]) (st' := [.int 1, .int 0, .int a1]) (h' := h) rfl ?_
  refine mX_cI (o := mE mtab d 11 [.int a1, .int 0, .int 1] h) (k' := 4) (ls' := [some (.ref a0), some (.int a1), none, none, none, none, none, none]) (st' := []) rfl ?_
  intro x2 h1
  refine mX_br (t := 5) (f := 7) (ls' := [some (.ref a0), some (.int a1), none, none, none, none, none, none]) (st' := []) (h' := h1) rfl ?_ ?_
  · refine mX_to 1 (k' := 6) (ls' := [some (.ref a0), some (.int a1), none, none, none, none, none, none]) (st' := [.int (-1)]) (h' := h1) rfl ?_
    exact mX_reti rfl
  · refine mX_to 2 (k' := 9) (ls' := [some (.ref a0), some (.int a1), none, none, none, none, none, none]) (st' := [.ref a0, .int 1]) (h' := h1) rfl ?_
    refine mX_ck (k' := 10) (ls' := [some (.ref a0), some (.int a1), none, none, none, none, none, none]) (st' := [.ref (gR h1 a0 0), .int 1]) (h' := h1) rfl ?_
    refine mX_ck (k' := 11) (ls' := [some (.ref a0), some (.int a1), none, none, none, none, none, none]) (st' := [.ref (gR h1 (gR h1 a0 0) 0), .int 1]) (h' := h1) rfl ?_
    refine mX_ck (k' := 12) (ls' := [some (.ref a0), some (.int a1), none, none, none, none, none, none]) (st' := [.int (gI h1 (gR h1 (gR h1 a0 0) 0) 0), .int 1]) (h' := h1) rfl ?_
    refine mX_to 3 (k' := 15) (ls' := [some (.ref a0), some (.int a1), none, none, none, none, none, none]) (st' := [.int ((1 <<< ((gI h1 (gR h1 (gR h1 a0 0) 0) 0) &&& 31)) - 1)]) (h' := h1) rfl ?_
    refine lt_gen (X := fun v3 : Int32 => mX (mE mtab d) KX10_halves 15 [some (.ref a0), some (.int a1), none, none, none, none, none, none] [.int v3] h1) fun v3 => ?_
    refine mX_to 2 (k' := 17) (ls' := [some (.ref a0), some (.int a1), some (.int v3), none, none, none, none, none]) (st' := [.ref a0]) (h' := h1) rfl ?_
    refine mX_ck (k' := 18) (ls' := [some (.ref a0), some (.int a1), some (.int v3), none, none, none, none, none]) (st' := [.ref (gR h1 a0 0)]) (h' := h1) rfl ?_
    refine mX_ck (k' := 19) (ls' := [some (.ref a0), some (.int a1), some (.int v3), none, none, none, none, none]) (st' := [.ref (gR h1 (gR h1 a0 0) 0)]) (h' := h1) rfl ?_
    refine mX_to 1 (k' := 20) (ls' := [some (.ref a0), some (.int a1), some (.int v3), none, none, none, none, none]) (st' := [.int v3, .ref (gR h1 (gR h1 a0 0) 0)]) (h' := h1) rfl ?_
    refine mX_ckc (m := mcl (mE mtab d 299 [.ref (gR h1 (gR h1 a0 0) 0), .int v3] h1) 1 21 [some (.ref a0), some (.int a1), some (.int v3), none, none, none, none, none] []) rfl ?_
    refine mk_cI ?_
    intro x5 h4
    refine mX_to 7 (k' := 28) (ls' := [some (.ref a0), some (.int a1), some (.int v3), some (.int x5), some (.int x5), some (.int 0), some (.int 0), none]) (st' := []) (h' := h4) rfl ?_
    rfl
theorem D_X11_moreOf (d : Nat) (h : MH) (a0 : Nat) (a1 : Int32) : mE mtab (d + 1) 301 [.ref a0, .int a1] h = ck (kd h a0 = 12) (cI (mE mtab d 158 [.ref a0, .int a1] h) (fun x2 h1 => ck (kd h1 a0 = 12) (cI (mE mtab d 154 [.ref a0] h1) (fun x4 h3 => ck (kd h3 a0 = 12) (cI (mE mtab d 158 [.ref a0, .int x4] h3) (fun x6 h5 => cI (mE mtab d 157 [.int ((2 * x2) - x6)] h5) (fun x8 h7 => some (.int x8, h7)))))))) := by
  refine mE_eq (q := (yX11_moreOf, cX11_moreOf, 2, (some .int), KX11_moreOf)) (C := KX11_moreOf) (ls := [some (.ref a0), some (.int a1)]) rfl rfl rfl rfl ?_
  refine mX_to 3 (k' := 3) (ls' := [some (.ref a0), some (.int a1)]) (st' := [.int a1, .ref a0, .int 2]) (h' := h) rfl ?_
  refine mX_ckc (m := mcl (mE mtab d 158 [.ref a0, .int a1] h) 1 4 [some (.ref a0), some (.int a1)] [.int 2]) rfl ?_
  refine mk_cI ?_
  intro x2 h1
  refine mX_to 3 (k' := 7) (ls' := [some (.ref a0), some (.int a1)]) (st' := [.ref a0, .ref a0, .int (2 * x2)]) (h' := h1) rfl ?_
  refine mX_ckc (m := mcl (mE mtab d 154 [.ref a0] h1) 1 8 [some (.ref a0), some (.int a1)] [.ref a0, .int (2 * x2)]) rfl ?_
  refine mk_cI ?_
  intro x4 h3
  refine mX_ckc (m := mcl (mE mtab d 158 [.ref a0, .int x4] h3) 1 9 [some (.ref a0), some (.int a1)] [.int (2 * x2)]) rfl ?_
  refine mk_cI ?_
  intro x6 h5
  refine mX_to 1 (k' := 10) (ls' := [some (.ref a0), some (.int a1)]) (st' := [.int ((2 * x2) - x6)]) (h' := h5) rfl ?_
  refine mX_cI (o := mE mtab d 157 [.int ((2 * x2) - x6)] h5) (k' := 11) (ls' := [some (.ref a0), some (.int a1)]) (st' := []) rfl ?_
  intro x8 h7
  exact mX_reti rfl
theorem D_X11_halves_11 (d : Nat) (h : MH) (l0 : Nat) (l1 : Int32) (l2 : Int32) (l3 : Int32) : mX (mE mtab d) KX11_halves 11 [some (.ref l0), some (.int l1), some (.int l2), some (.int l3)] [] h = ck (kd h l0 = 12) (cI (mE mtab d 154 [.ref l0] h) (fun x4 h3 => (if l3 ≤ x4 then ck (kd h3 l0 = 12) (cI (mE mtab d 301 [.ref l0, .int l3] h3) (fun x6 h5 => ck (kd h5 l0 = 12) (cI (mE mtab d 301 [.ref l0, .int l2] h5) (fun x8 h7 => (if x6 < x8 then mX (mE mtab d) KX11_halves 24 [some (.ref l0), some (.int l1), some (.int l3), some (.int l3)] [] h7 else mX (mE mtab d) KX11_halves 24 [some (.ref l0), some (.int l1), some (.int l2), some (.int l3)] [] h7))))) else (if l1 = 0 then ck (kd h3 l0 = 12) (cI (mE mtab d 301 [.ref l0, .int l2] h3) (fun x10 h9 => some (.int x10, h9))) else some (.int l2, h3))))) := by
  refine mX_to 2 (k' := 13) (ls' := [some (.ref l0), some (.int l1), some (.int l2), some (.int l3)]) (st' := [.ref l0, .int l3]) (h' := h) rfl ?_
  refine mX_ckc (m := mcl (mE mtab d 154 [.ref l0] h) 1 14 [some (.ref l0), some (.int l1), some (.int l2), some (.int l3)] [.int l3]) rfl ?_
  refine mk_cI ?_
  intro x4 h3
  refine mX_br (t := 15) (f := 26) (ls' := [some (.ref l0), some (.int l1), some (.int l2), some (.int l3)]) (st' := []) (h' := h3) rfl ?_ ?_
  · refine mX_to 2 (k' := 17) (ls' := [some (.ref l0), some (.int l1), some (.int l2), some (.int l3)]) (st' := [.int l3, .ref l0]) (h' := h3) rfl ?_
    refine mX_ckc (m := mcl (mE mtab d 301 [.ref l0, .int l3] h3) 1 18 [some (.ref l0), some (.int l1), some (.int l2), some (.int l3)] []) rfl ?_
    refine mk_cI ?_
    intro x6 h5
    refine mX_to 2 (k' := 20) (ls' := [some (.ref l0), some (.int l1), some (.int l2), some (.int l3)]) (st' := [.int l2, .ref l0, .int x6]) (h' := h5) rfl ?_
    refine mX_ckc (m := mcl (mE mtab d 301 [.ref l0, .int l2] h5) 1 21 [some (.ref l0), some (.int l1), some (.int l2), some (.int l3)] [.int x6]) rfl ?_
    refine mk_cI ?_
    intro x8 h7
    refine mX_br (t := 22) (f := 24) (ls' := [some (.ref l0), some (.int l1), some (.int l2), some (.int l3)]) (st' := []) (h' := h7) rfl ?_ ?_
    · refine mX_to 2 (k' := 24) (ls' := [some (.ref l0), some (.int l1), some (.int l3), some (.int l3)]) (st' := []) (h' := h7) rfl ?_
      rfl
    · rfl
  · refine mX_to 1 (k' := 27) (ls' := [some (.ref l0), some (.int l1), some (.int l2), some (.int l3)]) (st' := [.int l1]) (h' := h3) rfl ?_
    refine mX_br (t := 28) (f := 32) (ls' := [some (.ref l0), some (.int l1), some (.int l2), some (.int l3)]) (st' := []) (h' := h3) rfl ?_ ?_
    · refine mX_to 2 (k' := 30) (ls' := [some (.ref l0), some (.int l1), some (.int l2), some (.int l3)]) (st' := [.int l2, .ref l0]) (h' := h3) rfl ?_
      refine mX_ckc (m := mcl (mE mtab d 301 [.ref l0, .int l2] h3) 1 31 [some (.ref l0), some (.int l1), some (.int l2), some (.int l3)] []) rfl ?_
      refine mk_cI ?_
      intro x10 h9
      refine mX_to 1 (k' := 33) (ls' := [some (.ref l0), some (.int l1), some (.int l2), some (.int l3)]) (st' := [.int x10]) (h' := h9) rfl ?_
      exact mX_reti rfl
    · refine mX_to 1 (k' := 33) (ls' := [some (.ref l0), some (.int l1), some (.int l2), some (.int l3)]) (st' := [.int l2]) (h' := h3) rfl ?_
      exact mX_reti rfl
theorem D_X11_halves_24 (d : Nat) (h : MH) (l0 : Nat) (l1 : Int32) (l2 : Int32) (l3 : Int32) : mX (mE mtab d) KX11_halves 24 [some (.ref l0), some (.int l1), some (.int l2), some (.int l3)] [] h = mX (mE mtab d) KX11_halves 11 [some (.ref l0), some (.int l1), some (.int l2), some (.int (l3 + 1))] [] h := by
  refine mX_to 2 (k' := 11) (ls' := [some (.ref l0), some (.int l1), some (.int l2), some (.int (l3 + 1))]) (st' := []) (h' := h) rfl ?_
  rfl
theorem D_X11_halves (d : Nat) (h : MH) (a0 : Nat) (a1 : Int32) : mE mtab (d + 1) 302 [.ref a0, .int a1] h = cI (mE mtab d 14 [.int a1, .int 0, .int 1] h) (fun x2 h1 => (if x2 = 0 then some (.int (-1), h1) else mX (mE mtab d) KX11_halves 11 [some (.ref a0), some (.int a1), some (.int 0), some (.int 1)] [] h1)) := by
  refine mE_eq (q := (yX11_halves, cX11_halves, 4, (some .int), KX11_halves)) (C := KX11_halves) (ls := [some (.ref a0), some (.int a1), none, none]) rfl rfl rfl rfl ?_
  refine mX_to 3 (k' := 3) (ls' := [some (.ref a0), some (.int a1), none, none]) (st' := [.int 1, .int 0, .int a1]) (h' := h) rfl ?_
  refine mX_cI (o := mE mtab d 14 [.int a1, .int 0, .int 1] h) (k' := 4) (ls' := [some (.ref a0), some (.int a1), none, none]) (st' := []) rfl ?_
  intro x2 h1
  refine mX_br (t := 5) (f := 7) (ls' := [some (.ref a0), some (.int a1), none, none]) (st' := []) (h' := h1) rfl ?_ ?_
  · refine mX_to 1 (k' := 6) (ls' := [some (.ref a0), some (.int a1), none, none]) (st' := [.int (-1)]) (h' := h1) rfl ?_
    exact mX_reti rfl
  · refine mX_to 4 (k' := 11) (ls' := [some (.ref a0), some (.int a1), some (.int 0), some (.int 1)]) (st' := []) (h' := h1) rfl ?_
    rfl
theorem D_X10_level_15 (d : Nat) (h : MH) (l0 : Nat) (l1 : Int32) (l2 : Int32) (l3 : Int32) : mX (mE mtab d) KX10_level 15 [some (.ref l0), some (.int l1), some (.int l2), some (.int l3)] [] h = ck (kd h l0 = 11) (ck (kd h (gR h l0 2) = 10) (ck ((kd h 2 = 20 ∨ kd h 2 = 24) ∧ ib (gI h (gR h l0 2) 0) (ln h 2)) ((if l3 < (gI h 2 (ix (gI h (gR h l0 2) 0))) then ck (kd h l0 = 11) (ck (kd h (gR h l0 2) = 10) (cV (mE mtab d 237 [.ref (gR h l0 2), .int l3] h) (fun h2 => ck (kd h2 l0 = 11) (ck (kd h2 (gR h2 l0 2) = 10) (cI (mE mtab d 139 [.ref (gR h2 l0 2)] h2) (fun x4 h3 => (if x4 = 0 then (if l2 = l1 then some (.int l3, h3) else mX (mE mtab d) KX10_level 36 [some (.ref l0), some (.int l1), some (.int (l2 + 1)), some (.int l3)] [] h3) else mX (mE mtab d) KX10_level 36 [some (.ref l0), some (.int l1), some (.int l2), some (.int l3)] [] h3))))))) else (if l1 = (-1) then some (.int l2, h) else some (.int (-2), h)))))) := by
  refine mX_to 3 (k' := 18) (ls' := [some (.ref l0), some (.int l1), some (.int l2), some (.int l3)]) (st' := [.ref l0, .ref 2, .int l3]) (h' := h) rfl ?_
  refine mX_ck (k' := 19) (ls' := [some (.ref l0), some (.int l1), some (.int l2), some (.int l3)]) (st' := [.ref (gR h l0 2), .ref 2, .int l3]) (h' := h) rfl ?_
  refine mX_ck (k' := 20) (ls' := [some (.ref l0), some (.int l1), some (.int l2), some (.int l3)]) (st' := [.int (gI h (gR h l0 2) 0), .ref 2, .int l3]) (h' := h) rfl ?_
  refine mX_ck (k' := 21) (ls' := [some (.ref l0), some (.int l1), some (.int l2), some (.int l3)]) (st' := [.int (gI h 2 (ix (gI h (gR h l0 2) 0))), .int l3]) (h' := h) rfl ?_
  refine mX_br (t := 22) (f := 38) (ls' := [some (.ref l0), some (.int l1), some (.int l2), some (.int l3)]) (st' := []) (h' := h) rfl ?_ ?_
  · refine mX_to 1 (k' := 23) (ls' := [some (.ref l0), some (.int l1), some (.int l2), some (.int l3)]) (st' := [.ref l0]) (h' := h) rfl ?_
    refine mX_ck (k' := 24) (ls' := [some (.ref l0), some (.int l1), some (.int l2), some (.int l3)]) (st' := [.ref (gR h l0 2)]) (h' := h) rfl ?_
    refine mX_to 1 (k' := 25) (ls' := [some (.ref l0), some (.int l1), some (.int l2), some (.int l3)]) (st' := [.int l3, .ref (gR h l0 2)]) (h' := h) rfl ?_
    refine mX_ckc (m := mcl (mE mtab d 237 [.ref (gR h l0 2), .int l3] h) 0 26 [some (.ref l0), some (.int l1), some (.int l2), some (.int l3)] []) rfl ?_
    refine mk_cV ?_
    intro h2
    refine mX_to 1 (k' := 27) (ls' := [some (.ref l0), some (.int l1), some (.int l2), some (.int l3)]) (st' := [.ref l0]) (h' := h2) rfl ?_
    refine mX_ck (k' := 28) (ls' := [some (.ref l0), some (.int l1), some (.int l2), some (.int l3)]) (st' := [.ref (gR h2 l0 2)]) (h' := h2) rfl ?_
    refine mX_ckc (m := mcl (mE mtab d 139 [.ref (gR h2 l0 2)] h2) 1 29 [some (.ref l0), some (.int l1), some (.int l2), some (.int l3)] []) rfl ?_
    refine mk_cI ?_
    intro x4 h3
    refine mX_br (t := 30) (f := 36) (ls' := [some (.ref l0), some (.int l1), some (.int l2), some (.int l3)]) (st' := []) (h' := h3) rfl ?_ ?_
    · refine mX_to 2 (k' := 32) (ls' := [some (.ref l0), some (.int l1), some (.int l2), some (.int l3)]) (st' := [.int l1, .int l2]) (h' := h3) rfl ?_
      refine mX_br (t := 33) (f := 35) (ls' := [some (.ref l0), some (.int l1), some (.int l2), some (.int l3)]) (st' := []) (h' := h3) rfl ?_ ?_
      · refine mX_to 1 (k' := 34) (ls' := [some (.ref l0), some (.int l1), some (.int l2), some (.int l3)]) (st' := [.int l3]) (h' := h3) rfl ?_
        exact mX_reti rfl
      · refine mX_to 1 (k' := 36) (ls' := [some (.ref l0), some (.int l1), some (.int (l2 + 1)), some (.int l3)]) (st' := []) (h' := h3) rfl ?_
        rfl
    · rfl
  · refine mX_to 2 (k' := 40) (ls' := [some (.ref l0), some (.int l1), some (.int l2), some (.int l3)]) (st' := [.int (-1), .int l1]) (h' := h) rfl ?_
    refine mX_br (t := 41) (f := 43) (ls' := [some (.ref l0), some (.int l1), some (.int l2), some (.int l3)]) (st' := []) (h' := h) rfl ?_ ?_
    · refine mX_to 2 (k' := 44) (ls' := [some (.ref l0), some (.int l1), some (.int l2), some (.int l3)]) (st' := [.int l2]) (h' := h) rfl ?_
      exact mX_reti rfl
    · refine mX_to 1 (k' := 44) (ls' := [some (.ref l0), some (.int l1), some (.int l2), some (.int l3)]) (st' := [.int (-2)]) (h' := h) rfl ?_
      exact mX_reti rfl
theorem D_X10_level_36 (d : Nat) (h : MH) (l0 : Nat) (l1 : Int32) (l2 : Int32) (l3 : Int32) : mX (mE mtab d) KX10_level 36 [some (.ref l0), some (.int l1), some (.int l2), some (.int l3)] [] h = mX (mE mtab d) KX10_level 15 [some (.ref l0), some (.int l1), some (.int l2), some (.int (l3 + 1))] [] h := by
  refine mX_to 2 (k' := 15) (ls' := [some (.ref l0), some (.int l1), some (.int l2), some (.int (l3 + 1))]) (st' := []) (h' := h) rfl ?_
  rfl
theorem D_X10_level (d : Nat) (h : MH) (a0 : Nat) (a1 : Int32) : mE mtab (d + 1) 303 [.ref a0, .int a1] h = (if a1 < (-1) then some (.int (-2), h) else ck (kd h a0 = 11) (ck (kd h a0 = 11) (ck (kd h (gR h a0 0) = 1) (ck (kd h (gR h a0 2) = 10) (cV (mE mtab d 225 [.ref (gR h a0 2), .ref (gR h (gR h a0 0) 0)] h) (fun h1 => mX (mE mtab d) KX10_level 15 [some (.ref a0), some (.int a1), some (.int 0), some (.int 0)] [] h1)))))) := by
  refine mE_eq (q := (yX10_level, cX10_level, 4, (some .int), KX10_level)) (C := KX10_level) (ls := [some (.ref a0), some (.int a1), none, none]) rfl rfl rfl rfl ?_
  refine mX_to 2 (k' := 2) (ls' := [some (.ref a0), some (.int a1), none, none]) (st' := [.int (-1), .int a1]) (h' := h) rfl ?_
  refine mX_br (t := 3) (f := 5) (ls' := [some (.ref a0), some (.int a1), none, none]) (st' := []) (h' := h) rfl ?_ ?_
  · refine mX_to 1 (k' := 4) (ls' := [some (.ref a0), some (.int a1), none, none]) (st' := [.int (-2)]) (h' := h) rfl ?_
    exact mX_reti rfl
  · refine mX_to 1 (k' := 6) (ls' := [some (.ref a0), some (.int a1), none, none]) (st' := [.ref a0]) (h' := h) rfl ?_
    refine mX_ck (k' := 7) (ls' := [some (.ref a0), some (.int a1), none, none]) (st' := [.ref (gR h a0 2)]) (h' := h) rfl ?_
    refine mX_to 1 (k' := 8) (ls' := [some (.ref a0), some (.int a1), none, none]) (st' := [.ref a0, .ref (gR h a0 2)]) (h' := h) rfl ?_
    refine mX_ck (k' := 9) (ls' := [some (.ref a0), some (.int a1), none, none]) (st' := [.ref (gR h a0 0), .ref (gR h a0 2)]) (h' := h) rfl ?_
    refine mX_ck (k' := 10) (ls' := [some (.ref a0), some (.int a1), none, none]) (st' := [.ref (gR h (gR h a0 0) 0), .ref (gR h a0 2)]) (h' := h) rfl ?_
    refine mX_ckc (m := mcl (mE mtab d 225 [.ref (gR h a0 2), .ref (gR h (gR h a0 0) 0)] h) 0 11 [some (.ref a0), some (.int a1), none, none] []) rfl ?_
    refine mk_cV ?_
    intro h1
    refine mX_to 4 (k' := 15) (ls' := [some (.ref a0), some (.int a1), some (.int 0), some (.int 0)]) (st' := []) (h' := h1) rfl ?_
    rfl
theorem D_X11_level_9 (d : Nat) (h : MH) (l0 : Nat) (l1 : Int32) (l2 : Int32) (l3 : Int32) (l4 : Int32) (l5 : Int32) : mX (mE mtab d) KX11_level 9 [some (.ref l0), some (.int l1), some (.int l2), some (.int l3), some (.int l4), some (.int l5)] [] h = ck (kd h l0 = 12) (ck ((kd h (gR h l0 0) = 20 ∨ kd h (gR h l0 0) = 24) ∧ ib (0 : Int32) (ln h (gR h l0 0))) (cI (mE mtab d 244 [.int (gI h (gR h l0 0) (ix (0 : Int32)))] h) (fun x4 h3 => (if l5 < x4 then ck (kd h3 l0 = 12) (cV (mE mtab d 245 [.ref l0, .int l5] h3) (fun h5 => ck (kd h5 l0 = 12) (cI (mE mtab d 156 [.ref l0] h5) (fun x7 h6 => (if x7 = 0 then (if l3 = l1 then mX (mE mtab d) KX11_level 28 [some (.ref l0), some (.int l1), some (.int l2), some (.int l3), some (.int l5), some (.int l5)] [] h6 else mX (mE mtab d) KX11_level 28 [some (.ref l0), some (.int l1), some (.int l2), some (.int l3), some (.int l4), some (.int l5)] [] h6) else mX (mE mtab d) KX11_level 29 [some (.ref l0), some (.int l1), some (.int l2), some (.int l3), some (.int l4), some (.int l5)] [] h6))))) else ck (kd h3 l0 = 12) (cV (mE mtab d 245 [.ref l0, .int l2] h3) (fun h8 => (if l1 = (-1) then some (.int l3, h8) else some (.int l4, h8)))))))) := by
  refine mX_to 2 (k' := 11) (ls' := [some (.ref l0), some (.int l1), some (.int l2), some (.int l3), some (.int l4), some (.int l5)]) (st' := [.ref l0, .int l5]) (h' := h) rfl ?_
  refine mX_ck (k' := 12) (ls' := [some (.ref l0), some (.int l1), some (.int l2), some (.int l3), some (.int l4), some (.int l5)]) (st' := [.ref (gR h l0 0), .int l5]) (h' := h) rfl ?_
  refine mX_to 1 (k' := 13) (ls' := [some (.ref l0), some (.int l1), some (.int l2), some (.int l3), some (.int l4), some (.int l5)]) (st' := [.int 0, .ref (gR h l0 0), .int l5]) (h' := h) rfl ?_
  refine mX_ck (k' := 14) (ls' := [some (.ref l0), some (.int l1), some (.int l2), some (.int l3), some (.int l4), some (.int l5)]) (st' := [.int (gI h (gR h l0 0) (ix (0 : Int32))), .int l5]) (h' := h) rfl ?_
  refine mX_cI (o := mE mtab d 244 [.int (gI h (gR h l0 0) (ix (0 : Int32)))] h) (k' := 15) (ls' := [some (.ref l0), some (.int l1), some (.int l2), some (.int l3), some (.int l4), some (.int l5)]) (st' := [.int l5]) rfl ?_
  intro x4 h3
  refine mX_br (t := 16) (f := 31) (ls' := [some (.ref l0), some (.int l1), some (.int l2), some (.int l3), some (.int l4), some (.int l5)]) (st' := []) (h' := h3) rfl ?_ ?_
  · refine mX_to 2 (k' := 18) (ls' := [some (.ref l0), some (.int l1), some (.int l2), some (.int l3), some (.int l4), some (.int l5)]) (st' := [.int l5, .ref l0]) (h' := h3) rfl ?_
    refine mX_ckc (m := mcl (mE mtab d 245 [.ref l0, .int l5] h3) 0 19 [some (.ref l0), some (.int l1), some (.int l2), some (.int l3), some (.int l4), some (.int l5)] []) rfl ?_
    refine mk_cV ?_
    intro h5
    refine mX_to 1 (k' := 20) (ls' := [some (.ref l0), some (.int l1), some (.int l2), some (.int l3), some (.int l4), some (.int l5)]) (st' := [.ref l0]) (h' := h5) rfl ?_
    refine mX_ckc (m := mcl (mE mtab d 156 [.ref l0] h5) 1 21 [some (.ref l0), some (.int l1), some (.int l2), some (.int l3), some (.int l4), some (.int l5)] []) rfl ?_
    refine mk_cI ?_
    intro x7 h6
    refine mX_br (t := 23) (f := 22) (ls' := [some (.ref l0), some (.int l1), some (.int l2), some (.int l3), some (.int l4), some (.int l5)]) (st' := []) (h' := h6) rfl ?_ ?_
    · refine mX_to 2 (k' := 25) (ls' := [some (.ref l0), some (.int l1), some (.int l2), some (.int l3), some (.int l4), some (.int l5)]) (st' := [.int l1, .int l3]) (h' := h6) rfl ?_
      refine mX_br (t := 26) (f := 28) (ls' := [some (.ref l0), some (.int l1), some (.int l2), some (.int l3), some (.int l4), some (.int l5)]) (st' := []) (h' := h6) rfl ?_ ?_
      · refine mX_to 2 (k' := 28) (ls' := [some (.ref l0), some (.int l1), some (.int l2), some (.int l3), some (.int l5), some (.int l5)]) (st' := []) (h' := h6) rfl ?_
        rfl
      · rfl
    · refine mX_to 1 (k' := 29) (ls' := [some (.ref l0), some (.int l1), some (.int l2), some (.int l3), some (.int l4), some (.int l5)]) (st' := []) (h' := h6) rfl ?_
      rfl
  · refine mX_to 2 (k' := 33) (ls' := [some (.ref l0), some (.int l1), some (.int l2), some (.int l3), some (.int l4), some (.int l5)]) (st' := [.int l2, .ref l0]) (h' := h3) rfl ?_
    refine mX_ckc (m := mcl (mE mtab d 245 [.ref l0, .int l2] h3) 0 34 [some (.ref l0), some (.int l1), some (.int l2), some (.int l3), some (.int l4), some (.int l5)] []) rfl ?_
    refine mk_cV ?_
    intro h8
    refine mX_to 2 (k' := 36) (ls' := [some (.ref l0), some (.int l1), some (.int l2), some (.int l3), some (.int l4), some (.int l5)]) (st' := [.int (-1), .int l1]) (h' := h8) rfl ?_
    refine mX_br (t := 37) (f := 39) (ls' := [some (.ref l0), some (.int l1), some (.int l2), some (.int l3), some (.int l4), some (.int l5)]) (st' := []) (h' := h8) rfl ?_ ?_
    · refine mX_to 2 (k' := 40) (ls' := [some (.ref l0), some (.int l1), some (.int l2), some (.int l3), some (.int l4), some (.int l5)]) (st' := [.int l3]) (h' := h8) rfl ?_
      exact mX_reti rfl
    · refine mX_to 1 (k' := 40) (ls' := [some (.ref l0), some (.int l1), some (.int l2), some (.int l3), some (.int l4), some (.int l5)]) (st' := [.int l4]) (h' := h8) rfl ?_
      exact mX_reti rfl
theorem D_X11_level_28 (d : Nat) (h : MH) (l0 : Nat) (l1 : Int32) (l2 : Int32) (l3 : Int32) (l4 : Int32) (l5 : Int32) : mX (mE mtab d) KX11_level 28 [some (.ref l0), some (.int l1), some (.int l2), some (.int l3), some (.int l4), some (.int l5)] [] h = mX (mE mtab d) KX11_level 29 [some (.ref l0), some (.int l1), some (.int l2), some (.int (l3 + 1)), some (.int l4), some (.int l5)] [] h := by
  refine mX_to 1 (k' := 29) (ls' := [some (.ref l0), some (.int l1), some (.int l2), some (.int (l3 + 1)), some (.int l4), some (.int l5)]) (st' := []) (h' := h) rfl ?_
  rfl
theorem D_X11_level_29 (d : Nat) (h : MH) (l0 : Nat) (l1 : Int32) (l2 : Int32) (l3 : Int32) (l4 : Int32) (l5 : Int32) : mX (mE mtab d) KX11_level 29 [some (.ref l0), some (.int l1), some (.int l2), some (.int l3), some (.int l4), some (.int l5)] [] h = mX (mE mtab d) KX11_level 9 [some (.ref l0), some (.int l1), some (.int l2), some (.int l3), some (.int l4), some (.int (l5 + 1))] [] h := by
  refine mX_to 2 (k' := 9) (ls' := [some (.ref l0), some (.int l1), some (.int l2), some (.int l3), some (.int l4), some (.int (l5 + 1))]) (st' := []) (h' := h) rfl ?_
  rfl
theorem D_X11_level (d : Nat) (h : MH) (a0 : Nat) (a1 : Int32) : mE mtab (d + 1) 304 [.ref a0, .int a1] h = ck (kd h a0 = 12) (cI (mE mtab d 243 [.ref a0] h) (fun x2 h1 => mX (mE mtab d) KX11_level 9 [some (.ref a0), some (.int a1), some (.int x2), some (.int 0), some (.int (-2)), some (.int 0)] [] h1)) := by
  refine mE_eq (q := (yX11_level, cX11_level, 6, (some .int), KX11_level)) (C := KX11_level) (ls := [some (.ref a0), some (.int a1), none, none, none, none]) rfl rfl rfl rfl ?_
  refine mX_to 1 (k' := 1) (ls' := [some (.ref a0), some (.int a1), none, none, none, none]) (st' := [.ref a0]) (h' := h) rfl ?_
  refine mX_ckc (m := mcl (mE mtab d 243 [.ref a0] h) 1 2 [some (.ref a0), some (.int a1), none, none, none, none] []) rfl ?_
  refine mk_cI ?_
  intro x2 h1
  refine mX_to 7 (k' := 9) (ls' := [some (.ref a0), some (.int a1), some (.int x2), some (.int 0), some (.int (-2)), some (.int 0)]) (st' := []) (h' := h1) rfl ?_
  rfl
theorem D_X9_tipSwapped (d : Nat) (h : MH) (a0 : Nat) (a1 : Int32) (a2 : Int32) : mE mtab (d + 1) 305 [.ref a0, .int a1, .int a2] h = ck (kd h a0 = 10) (cI (mE mtab d 139 [.ref a0] h) (fun x2 h1 => ck (kd h1 a0 = 10) (ck ((kd h1 (gR h1 a0 1) = 20 ∨ kd h1 (gR h1 a0 1) = 24) ∧ ib a1 (ln h1 (gR h1 a0 1))) (ck (kd h1 a0 = 10) (ck ((kd h1 (gR h1 a0 1) = 20 ∨ kd h1 (gR h1 a0 1) = 24) ∧ ib a2 (ln h1 (gR h1 a0 1))) (ck (kd h1 a0 = 10) (ck ((kd h1 (gR h1 a0 2) = 20 ∨ kd h1 (gR h1 a0 2) = 24) ∧ ib a2 (ln h1 (gR h1 a0 2))) (ck (kd h1 a0 = 10) (ck ((kd h1 (gR h1 a0 2) = 20 ∨ kd h1 (gR h1 a0 2) = 24) ∧ ib a1 (ln h1 (gR h1 a0 2))) (some (.int (x2 + (((gI h1 (gR h1 a0 1) (ix a1)) - (gI h1 (gR h1 a0 1) (ix a2))) * ((gI h1 (gR h1 a0 2) (ix a2)) - (gI h1 (gR h1 a0 2) (ix a1))))), h1))))))))))) := by
  refine mE_eq (q := (yX9_tipSwapped, cX9_tipSwapped, 3, (some .int), KX9_tipSwapped)) (C := KX9_tipSwapped) (ls := [some (.ref a0), some (.int a1), some (.int a2)]) rfl rfl rfl rfl ?_
  refine mX_to 1 (k' := 1) (ls' := [some (.ref a0), some (.int a1), some (.int a2)]) (st' := [.ref a0]) (h' := h) rfl ?_
  refine mX_ckc (m := mcl (mE mtab d 139 [.ref a0] h) 1 2 [some (.ref a0), some (.int a1), some (.int a2)] []) rfl ?_
  refine mk_cI ?_
  intro x2 h1
  refine mX_to 1 (k' := 3) (ls' := [some (.ref a0), some (.int a1), some (.int a2)]) (st' := [.ref a0, .int x2]) (h' := h1) rfl ?_
  refine mX_ck (k' := 4) (ls' := [some (.ref a0), some (.int a1), some (.int a2)]) (st' := [.ref (gR h1 a0 1), .int x2]) (h' := h1) rfl ?_
  refine mX_to 1 (k' := 5) (ls' := [some (.ref a0), some (.int a1), some (.int a2)]) (st' := [.int a1, .ref (gR h1 a0 1), .int x2]) (h' := h1) rfl ?_
  refine mX_ck (k' := 6) (ls' := [some (.ref a0), some (.int a1), some (.int a2)]) (st' := [.int (gI h1 (gR h1 a0 1) (ix a1)), .int x2]) (h' := h1) rfl ?_
  refine mX_to 1 (k' := 7) (ls' := [some (.ref a0), some (.int a1), some (.int a2)]) (st' := [.ref a0, .int (gI h1 (gR h1 a0 1) (ix a1)), .int x2]) (h' := h1) rfl ?_
  refine mX_ck (k' := 8) (ls' := [some (.ref a0), some (.int a1), some (.int a2)]) (st' := [.ref (gR h1 a0 1), .int (gI h1 (gR h1 a0 1) (ix a1)), .int x2]) (h' := h1) rfl ?_
  refine mX_to 1 (k' := 9) (ls' := [some (.ref a0), some (.int a1), some (.int a2)]) (st' := [.int a2, .ref (gR h1 a0 1), .int (gI h1 (gR h1 a0 1) (ix a1)), .int x2]) (h' := h1) rfl ?_
  refine mX_ck (k' := 10) (ls' := [some (.ref a0), some (.int a1), some (.int a2)]) (st' := [.int (gI h1 (gR h1 a0 1) (ix a2)), .int (gI h1 (gR h1 a0 1) (ix a1)), .int x2]) (h' := h1) rfl ?_
  refine mX_to 2 (k' := 12) (ls' := [some (.ref a0), some (.int a1), some (.int a2)]) (st' := [.ref a0, .int ((gI h1 (gR h1 a0 1) (ix a1)) - (gI h1 (gR h1 a0 1) (ix a2))), .int x2]) (h' := h1) rfl ?_
  refine mX_ck (k' := 13) (ls' := [some (.ref a0), some (.int a1), some (.int a2)]) (st' := [.ref (gR h1 a0 2), .int ((gI h1 (gR h1 a0 1) (ix a1)) - (gI h1 (gR h1 a0 1) (ix a2))), .int x2]) (h' := h1) rfl ?_
  refine mX_to 1 (k' := 14) (ls' := [some (.ref a0), some (.int a1), some (.int a2)]) (st' := [.int a2, .ref (gR h1 a0 2), .int ((gI h1 (gR h1 a0 1) (ix a1)) - (gI h1 (gR h1 a0 1) (ix a2))), .int x2]) (h' := h1) rfl ?_
  refine mX_ck (k' := 15) (ls' := [some (.ref a0), some (.int a1), some (.int a2)]) (st' := [.int (gI h1 (gR h1 a0 2) (ix a2)), .int ((gI h1 (gR h1 a0 1) (ix a1)) - (gI h1 (gR h1 a0 1) (ix a2))), .int x2]) (h' := h1) rfl ?_
  refine mX_to 1 (k' := 16) (ls' := [some (.ref a0), some (.int a1), some (.int a2)]) (st' := [.ref a0, .int (gI h1 (gR h1 a0 2) (ix a2)), .int ((gI h1 (gR h1 a0 1) (ix a1)) - (gI h1 (gR h1 a0 1) (ix a2))), .int x2]) (h' := h1) rfl ?_
  refine mX_ck (k' := 17) (ls' := [some (.ref a0), some (.int a1), some (.int a2)]) (st' := [.ref (gR h1 a0 2), .int (gI h1 (gR h1 a0 2) (ix a2)), .int ((gI h1 (gR h1 a0 1) (ix a1)) - (gI h1 (gR h1 a0 1) (ix a2))), .int x2]) (h' := h1) rfl ?_
  refine mX_to 1 (k' := 18) (ls' := [some (.ref a0), some (.int a1), some (.int a2)]) (st' := [.int a1, .ref (gR h1 a0 2), .int (gI h1 (gR h1 a0 2) (ix a2)), .int ((gI h1 (gR h1 a0 1) (ix a1)) - (gI h1 (gR h1 a0 1) (ix a2))), .int x2]) (h' := h1) rfl ?_
  refine mX_ck (k' := 19) (ls' := [some (.ref a0), some (.int a1), some (.int a2)]) (st' := [.int (gI h1 (gR h1 a0 2) (ix a1)), .int (gI h1 (gR h1 a0 2) (ix a2)), .int ((gI h1 (gR h1 a0 1) (ix a1)) - (gI h1 (gR h1 a0 1) (ix a2))), .int x2]) (h' := h1) rfl ?_
  refine mX_to 3 (k' := 22) (ls' := [some (.ref a0), some (.int a1), some (.int a2)]) (st' := [.int (x2 + (((gI h1 (gR h1 a0 1) (ix a1)) - (gI h1 (gR h1 a0 1) (ix a2))) * ((gI h1 (gR h1 a0 2) (ix a2)) - (gI h1 (gR h1 a0 2) (ix a1)))))]) (h' := h1) rfl ?_
  exact mX_reti rfl
theorem D_X10_swap_10 (d : Nat) (h : MH) (l0 : Nat) (l1 : Int32) (l2 : Nat) (l3 : Int32) (l4 : Int32) (l5 : Int32) (o6 : Option Value) (o7 : Option Value) : mX (mE mtab d) KX10_swap 10 [some (.ref l0), some (.int l1), some (.ref l2), some (.int l3), some (.int l4), some (.int l5), o6, o7] [] h = ck (kd h l2 = 10) ((if l5 < (gI h l2 0) then lt_ (l5 + 1) fun v2 => mX (mE mtab d) KX10_swap 18 [some (.ref l0), some (.int l1), some (.ref l2), some (.int l3), some (.int l4), some (.int l5), some (.int v2), o7] [] h else (if l1 = 0 then some (.int l3, h) else some (.int l4, h)))) := by
  refine mX_to 2 (k' := 12) (ls' := [some (.ref l0), some (.int l1), some (.ref l2), some (.int l3), some (.int l4), some (.int l5), o6, o7]) (st' := [.ref l2, .int l5]) (h' := h) rfl ?_
  refine mX_ck (k' := 13) (ls' := [some (.ref l0), some (.int l1), some (.ref l2), some (.int l3), some (.int l4), some (.int l5), o6, o7]) (st' := [.int (gI h l2 0), .int l5]) (h' := h) rfl ?_
  refine mX_br (t := 14) (f := 47) (ls' := [some (.ref l0), some (.int l1), some (.ref l2), some (.int l3), some (.int l4), some (.int l5), o6, o7]) (st' := []) (h' := h) rfl ?_ ?_
  · refine mX_to 3 (k' := 17) (ls' := [some (.ref l0), some (.int l1), some (.ref l2), some (.int l3), some (.int l4), some (.int l5), o6, o7]) (st' := [.int (l5 + 1)]) (h' := h) rfl ?_
    refine lt_gen (X := fun v2 : Int32 => mX (mE mtab d) KX10_swap 17 [some (.ref l0), some (.int l1), some (.ref l2), some (.int l3), some (.int l4), some (.int l5), o6, o7] [.int v2] h) fun v2 => ?_
    refine mX_to 1 (k' := 18) (ls' := [some (.ref l0), some (.int l1), some (.ref l2), some (.int l3), some (.int l4), some (.int l5), some (.int v2), o7]) (st' := []) (h' := h) rfl ?_
    rfl
  · refine mX_to 1 (k' := 48) (ls' := [some (.ref l0), some (.int l1), some (.ref l2), some (.int l3), some (.int l4), some (.int l5), o6, o7]) (st' := [.int l1]) (h' := h) rfl ?_
    refine mX_br (t := 51) (f := 49) (ls' := [some (.ref l0), some (.int l1), some (.ref l2), some (.int l3), some (.int l4), some (.int l5), o6, o7]) (st' := []) (h' := h) rfl ?_ ?_
    · refine mX_to 1 (k' := 52) (ls' := [some (.ref l0), some (.int l1), some (.ref l2), some (.int l3), some (.int l4), some (.int l5), o6, o7]) (st' := [.int l3]) (h' := h) rfl ?_
      exact mX_reti rfl
    · refine mX_to 2 (k' := 52) (ls' := [some (.ref l0), some (.int l1), some (.ref l2), some (.int l3), some (.int l4), some (.int l5), o6, o7]) (st' := [.int l4]) (h' := h) rfl ?_
      exact mX_reti rfl
theorem D_X10_swap_18 (d : Nat) (h : MH) (l0 : Nat) (l1 : Int32) (l2 : Nat) (l3 : Int32) (l4 : Int32) (l5 : Int32) (l6 : Int32) (o7 : Option Value) : mX (mE mtab d) KX10_swap 18 [some (.ref l0), some (.int l1), some (.ref l2), some (.int l3), some (.int l4), some (.int l5), some (.int l6), o7] [] h = ck (kd h l2 = 10) ((if l6 < (gI h l2 0) then ck (kd h l2 = 10) (cI (mE mtab d 305 [.ref l2, .int l5, .int l6] h) (fun x4 h3 => (if l4 = (-1) then mX (mE mtab d) KX10_swap 35 [some (.ref l0), some (.int l1), some (.ref l2), some (.int l3), some (.int l4), some (.int l5), some (.int l6), some (.int x4)] [] h3 else (if (jabs x4) < (jabs l3) then mX (mE mtab d) KX10_swap 35 [some (.ref l0), some (.int l1), some (.ref l2), some (.int l3), some (.int l4), some (.int l5), some (.int l6), some (.int x4)] [] h3 else mX (mE mtab d) KX10_swap 43 [some (.ref l0), some (.int l1), some (.ref l2), some (.int l3), some (.int l4), some (.int l5), some (.int l6), some (.int x4)] [] h3)))) else mX (mE mtab d) KX10_swap 10 [some (.ref l0), some (.int l1), some (.ref l2), some (.int l3), some (.int l4), some (.int (l5 + 1)), some (.int l6), o7] [] h)) := by
  refine mX_to 2 (k' := 20) (ls' := [some (.ref l0), some (.int l1), some (.ref l2), some (.int l3), some (.int l4), some (.int l5), some (.int l6), o7]) (st' := [.ref l2, .int l6]) (h' := h) rfl ?_
  refine mX_ck (k' := 21) (ls' := [some (.ref l0), some (.int l1), some (.ref l2), some (.int l3), some (.int l4), some (.int l5), some (.int l6), o7]) (st' := [.int (gI h l2 0), .int l6]) (h' := h) rfl ?_
  refine mX_br (t := 22) (f := 45) (ls' := [some (.ref l0), some (.int l1), some (.ref l2), some (.int l3), some (.int l4), some (.int l5), some (.int l6), o7]) (st' := []) (h' := h) rfl ?_ ?_
  · refine mX_to 3 (k' := 25) (ls' := [some (.ref l0), some (.int l1), some (.ref l2), some (.int l3), some (.int l4), some (.int l5), some (.int l6), o7]) (st' := [.int l6, .int l5, .ref l2]) (h' := h) rfl ?_
    refine mX_ckc (m := mcl (mE mtab d 305 [.ref l2, .int l5, .int l6] h) 1 26 [some (.ref l0), some (.int l1), some (.ref l2), some (.int l3), some (.int l4), some (.int l5), some (.int l6), o7] []) rfl ?_
    refine mk_cI ?_
    intro x4 h3
    refine mX_to 3 (k' := 29) (ls' := [some (.ref l0), some (.int l1), some (.ref l2), some (.int l3), some (.int l4), some (.int l5), some (.int l6), some (.int x4)]) (st' := [.int (-1), .int l4]) (h' := h3) rfl ?_
    refine mX_br (t := 35) (f := 30) (ls' := [some (.ref l0), some (.int l1), some (.ref l2), some (.int l3), some (.int l4), some (.int l5), some (.int l6), some (.int x4)]) (st' := []) (h' := h3) rfl ?_ ?_
    · rfl
    · refine mX_to 4 (k' := 34) (ls' := [some (.ref l0), some (.int l1), some (.ref l2), some (.int l3), some (.int l4), some (.int l5), some (.int l6), some (.int x4)]) (st' := [.int (jabs l3), .int (jabs x4)]) (h' := h3) rfl ?_
      refine mX_br (t := 35) (f := 43) (ls' := [some (.ref l0), some (.int l1), some (.ref l2), some (.int l3), some (.int l4), some (.int l5), some (.int l6), some (.int x4)]) (st' := []) (h' := h3) rfl ?_ ?_
      · rfl
      · rfl
  · refine mX_to 2 (k' := 10) (ls' := [some (.ref l0), some (.int l1), some (.ref l2), some (.int l3), some (.int l4), some (.int (l5 + 1)), some (.int l6), o7]) (st' := []) (h' := h) rfl ?_
    rfl
theorem D_X10_swap_35 (d : Nat) (h : MH) (l0 : Nat) (l1 : Int32) (l2 : Nat) (l3 : Int32) (l4 : Int32) (l5 : Int32) (l6 : Int32) (l7 : Int32) : mX (mE mtab d) KX10_swap 35 [some (.ref l0), some (.int l1), some (.ref l2), some (.int l3), some (.int l4), some (.int l5), some (.int l6), some (.int l7)] [] h = lt_ ((10 * l5) + l6) fun v6 => mX (mE mtab d) KX10_swap 43 [some (.ref l0), some (.int l1), some (.ref l2), some (.int l7), some (.int v6), some (.int l5), some (.int l6), some (.int l7)] [] h := by
  refine mX_to 7 (k' := 42) (ls' := [some (.ref l0), some (.int l1), some (.ref l2), some (.int l7), some (.int l4), some (.int l5), some (.int l6), some (.int l7)]) (st' := [.int ((10 * l5) + l6)]) (h' := h) rfl ?_
  refine lt_gen (X := fun v6 : Int32 => mX (mE mtab d) KX10_swap 42 [some (.ref l0), some (.int l1), some (.ref l2), some (.int l7), some (.int l4), some (.int l5), some (.int l6), some (.int l7)] [.int v6] h) fun v6 => ?_
  refine mX_to 1 (k' := 43) (ls' := [some (.ref l0), some (.int l1), some (.ref l2), some (.int l7), some (.int v6), some (.int l5), some (.int l6), some (.int l7)]) (st' := []) (h' := h) rfl ?_
  rfl
theorem D_X10_swap_43 (d : Nat) (h : MH) (l0 : Nat) (l1 : Int32) (l2 : Nat) (l3 : Int32) (l4 : Int32) (l5 : Int32) (l6 : Int32) (l7 : Int32) : mX (mE mtab d) KX10_swap 43 [some (.ref l0), some (.int l1), some (.ref l2), some (.int l3), some (.int l4), some (.int l5), some (.int l6), some (.int l7)] [] h = mX (mE mtab d) KX10_swap 18 [some (.ref l0), some (.int l1), some (.ref l2), some (.int l3), some (.int l4), some (.int l5), some (.int (l6 + 1)), some (.int l7)] [] h := by
  refine mX_to 2 (k' := 18) (ls' := [some (.ref l0), some (.int l1), some (.ref l2), some (.int l3), some (.int l4), some (.int l5), some (.int (l6 + 1)), some (.int l7)]) (st' := []) (h' := h) rfl ?_
  rfl
theorem D_X10_swap (d : Nat) (h : MH) (a0 : Nat) (a1 : Int32) : mE mtab (d + 1) 306 [.ref a0, .int a1] h = ck (kd h a0 = 11) (ck (kd h (gR h a0 0) = 1) (lt_ (gR h (gR h a0 0) 0) fun v1 => mX (mE mtab d) KX10_swap 10 [some (.ref a0), some (.int a1), some (.ref v1), some (.int (-1000)), some (.int (-1)), some (.int 0), none, none] [] h)) := by
  refine mE_eq (q := (yX10_swap, cX10_swap, 8, (some .int), KX10_swap)) (C := KX10_swap) (ls := [some (.ref a0), some (.int a1), none, none, none, none, none, none]) rfl rfl rfl rfl ?_
  refine mX_to 1 (k' := 1) (ls' := [some (.ref a0), some (.int a1), none, none, none, none, none, none]) (st' := [.ref a0]) (h' := h) rfl ?_
  refine mX_ck (k' := 2) (ls' := [some (.ref a0), some (.int a1), none, none, none, none, none, none]) (st' := [.ref (gR h a0 0)]) (h' := h) rfl ?_
  refine mX_ck (k' := 3) (ls' := [some (.ref a0), some (.int a1), none, none, none, none, none, none]) (st' := [.ref (gR h (gR h a0 0) 0)]) (h' := h) rfl ?_
  refine lt_gen (X := fun v1 : Nat => mX (mE mtab d) KX10_swap 3 [some (.ref a0), some (.int a1), none, none, none, none, none, none] [.ref v1] h) fun v1 => ?_
  refine mX_to 7 (k' := 10) (ls' := [some (.ref a0), some (.int a1), some (.ref v1), some (.int (-1000)), some (.int (-1)), some (.int 0), none, none]) (st' := []) (h' := h) rfl ?_
  rfl
theorem D_X11_swapped (d : Nat) (h : MH) (a0 : Nat) (a1 : Int32) (a2 : Int32) : mE mtab (d + 1) 307 [.ref a0, .int a1, .int a2] h = ck (kd h a0 = 12) (cI (mE mtab d 156 [.ref a0] h) (fun x2 h1 => ck (kd h1 a0 = 12) (ck ((kd h1 (gR h1 a0 0) = 20 ∨ kd h1 (gR h1 a0 0) = 24) ∧ ib (22 + a1) (ln h1 (gR h1 a0 0))) (ck (kd h1 a0 = 12) (ck ((kd h1 (gR h1 a0 0) = 20 ∨ kd h1 (gR h1 a0 0) = 24) ∧ ib (22 + a2) (ln h1 (gR h1 a0 0))) (ck (kd h1 a0 = 12) (ck ((kd h1 (gR h1 a0 0) = 20 ∨ kd h1 (gR h1 a0 0) = 24) ∧ ib (9 + a2) (ln h1 (gR h1 a0 0))) (ck (kd h1 a0 = 12) (ck ((kd h1 (gR h1 a0 0) = 20 ∨ kd h1 (gR h1 a0 0) = 24) ∧ ib (9 + a1) (ln h1 (gR h1 a0 0))) (some (.int (x2 + (((gI h1 (gR h1 a0 0) (ix (22 + a1))) - (gI h1 (gR h1 a0 0) (ix (22 + a2)))) * ((gI h1 (gR h1 a0 0) (ix (9 + a2))) - (gI h1 (gR h1 a0 0) (ix (9 + a1)))))), h1))))))))))) := by
  refine mE_eq (q := (yX11_swapped, cX11_swapped, 3, (some .int), KX11_swapped)) (C := KX11_swapped) (ls := [some (.ref a0), some (.int a1), some (.int a2)]) rfl rfl rfl rfl ?_
  refine mX_to 1 (k' := 1) (ls' := [some (.ref a0), some (.int a1), some (.int a2)]) (st' := [.ref a0]) (h' := h) rfl ?_
  refine mX_ckc (m := mcl (mE mtab d 156 [.ref a0] h) 1 2 [some (.ref a0), some (.int a1), some (.int a2)] []) rfl ?_
  refine mk_cI ?_
  intro x2 h1
  refine mX_to 1 (k' := 3) (ls' := [some (.ref a0), some (.int a1), some (.int a2)]) (st' := [.ref a0, .int x2]) (h' := h1) rfl ?_
  refine mX_ck (k' := 4) (ls' := [some (.ref a0), some (.int a1), some (.int a2)]) (st' := [.ref (gR h1 a0 0), .int x2]) (h' := h1) rfl ?_
  refine mX_to 3 (k' := 7) (ls' := [some (.ref a0), some (.int a1), some (.int a2)]) (st' := [.int (22 + a1), .ref (gR h1 a0 0), .int x2]) (h' := h1) rfl ?_
  refine mX_ck (k' := 8) (ls' := [some (.ref a0), some (.int a1), some (.int a2)]) (st' := [.int (gI h1 (gR h1 a0 0) (ix (22 + a1))), .int x2]) (h' := h1) rfl ?_
  refine mX_to 1 (k' := 9) (ls' := [some (.ref a0), some (.int a1), some (.int a2)]) (st' := [.ref a0, .int (gI h1 (gR h1 a0 0) (ix (22 + a1))), .int x2]) (h' := h1) rfl ?_
  refine mX_ck (k' := 10) (ls' := [some (.ref a0), some (.int a1), some (.int a2)]) (st' := [.ref (gR h1 a0 0), .int (gI h1 (gR h1 a0 0) (ix (22 + a1))), .int x2]) (h' := h1) rfl ?_
  refine mX_to 3 (k' := 13) (ls' := [some (.ref a0), some (.int a1), some (.int a2)]) (st' := [.int (22 + a2), .ref (gR h1 a0 0), .int (gI h1 (gR h1 a0 0) (ix (22 + a1))), .int x2]) (h' := h1) rfl ?_
  refine mX_ck (k' := 14) (ls' := [some (.ref a0), some (.int a1), some (.int a2)]) (st' := [.int (gI h1 (gR h1 a0 0) (ix (22 + a2))), .int (gI h1 (gR h1 a0 0) (ix (22 + a1))), .int x2]) (h' := h1) rfl ?_
  refine mX_to 2 (k' := 16) (ls' := [some (.ref a0), some (.int a1), some (.int a2)]) (st' := [.ref a0, .int ((gI h1 (gR h1 a0 0) (ix (22 + a1))) - (gI h1 (gR h1 a0 0) (ix (22 + a2)))), .int x2]) (h' := h1) rfl ?_
  refine mX_ck (k' := 17) (ls' := [some (.ref a0), some (.int a1), some (.int a2)]) (st' := [.ref (gR h1 a0 0), .int ((gI h1 (gR h1 a0 0) (ix (22 + a1))) - (gI h1 (gR h1 a0 0) (ix (22 + a2)))), .int x2]) (h' := h1) rfl ?_
  refine mX_to 3 (k' := 20) (ls' := [some (.ref a0), some (.int a1), some (.int a2)]) (st' := [.int (9 + a2), .ref (gR h1 a0 0), .int ((gI h1 (gR h1 a0 0) (ix (22 + a1))) - (gI h1 (gR h1 a0 0) (ix (22 + a2)))), .int x2]) (h' := h1) rfl ?_
  refine mX_ck (k' := 21) (ls' := [some (.ref a0), some (.int a1), some (.int a2)]) (st' := [.int (gI h1 (gR h1 a0 0) (ix (9 + a2))), .int ((gI h1 (gR h1 a0 0) (ix (22 + a1))) - (gI h1 (gR h1 a0 0) (ix (22 + a2)))), .int x2]) (h' := h1) rfl ?_
  refine mX_to 1 (k' := 22) (ls' := [some (.ref a0), some (.int a1), some (.int a2)]) (st' := [.ref a0, .int (gI h1 (gR h1 a0 0) (ix (9 + a2))), .int ((gI h1 (gR h1 a0 0) (ix (22 + a1))) - (gI h1 (gR h1 a0 0) (ix (22 + a2)))), .int x2]) (h' := h1) rfl ?_
  refine mX_ck (k' := 23) (ls' := [some (.ref a0), some (.int a1), some (.int a2)]) (st' := [.ref (gR h1 a0 0), .int (gI h1 (gR h1 a0 0) (ix (9 + a2))), .int ((gI h1 (gR h1 a0 0) (ix (22 + a1))) - (gI h1 (gR h1 a0 0) (ix (22 + a2)))), .int x2]) (h' := h1) rfl ?_
  refine mX_to 3 (k' := 26) (ls' := [some (.ref a0), some (.int a1), some (.int a2)]) (st' := [.int (9 + a1), .ref (gR h1 a0 0), .int (gI h1 (gR h1 a0 0) (ix (9 + a2))), .int ((gI h1 (gR h1 a0 0) (ix (22 + a1))) - (gI h1 (gR h1 a0 0) (ix (22 + a2)))), .int x2]) (h' := h1) rfl ?_
  refine mX_ck (k' := 27) (ls' := [some (.ref a0), some (.int a1), some (.int a2)]) (st' := [.int (gI h1 (gR h1 a0 0) (ix (9 + a1))), .int (gI h1 (gR h1 a0 0) (ix (9 + a2))), .int ((gI h1 (gR h1 a0 0) (ix (22 + a1))) - (gI h1 (gR h1 a0 0) (ix (22 + a2)))), .int x2]) (h' := h1) rfl ?_
  refine mX_to 3 (k' := 30) (ls' := [some (.ref a0), some (.int a1), some (.int a2)]) (st' := [.int (x2 + (((gI h1 (gR h1 a0 0) (ix (22 + a1))) - (gI h1 (gR h1 a0 0) (ix (22 + a2)))) * ((gI h1 (gR h1 a0 0) (ix (9 + a2))) - (gI h1 (gR h1 a0 0) (ix (9 + a1))))))]) (h' := h1) rfl ?_
  exact mX_reti rfl
theorem D_X11_swap_4 (d : Nat) (h : MH) (l0 : Nat) (l1 : Int32) (l2 : Int32) (l3 : Int32) (o4 : Option Value) : mX (mE mtab d) KX11_swap 4 [some (.ref l0), some (.int l1), some (.int l2), some (.int l3), o4] [] h = ck (kd h l0 = 12) (ck ((kd h (gR h l0 0) = 20 ∨ kd h (gR h l0 0) = 24) ∧ ib (0 : Int32) (ln h (gR h l0 0))) ((if l3 < (gI h (gR h l0 0) (ix (0 : Int32))) then lt_ (l3 + 1) fun v1 => mX (mE mtab d) KX11_swap 14 [some (.ref l0), some (.int l1), some (.int l2), some (.int l3), some (.int v1)] [] h else (if l1 = 0 then (if l2 = (-1) then some (.int (-1000), h) else ck (kd h l0 = 12) (cI (mE mtab d 307 [.ref l0, .int (l2 / 10), .int (l2 - l2 / 10 * 10)] h) (fun x3 h2 => some (.int x3, h2)))) else some (.int l2, h))))) := by
  refine mX_to 2 (k' := 6) (ls' := [some (.ref l0), some (.int l1), some (.int l2), some (.int l3), o4]) (st' := [.ref l0, .int l3]) (h' := h) rfl ?_
  refine mX_ck (k' := 7) (ls' := [some (.ref l0), some (.int l1), some (.int l2), some (.int l3), o4]) (st' := [.ref (gR h l0 0), .int l3]) (h' := h) rfl ?_
  refine mX_to 1 (k' := 8) (ls' := [some (.ref l0), some (.int l1), some (.int l2), some (.int l3), o4]) (st' := [.int 0, .ref (gR h l0 0), .int l3]) (h' := h) rfl ?_
  refine mX_ck (k' := 9) (ls' := [some (.ref l0), some (.int l1), some (.int l2), some (.int l3), o4]) (st' := [.int (gI h (gR h l0 0) (ix (0 : Int32))), .int l3]) (h' := h) rfl ?_
  refine mX_br (t := 10) (f := 48) (ls' := [some (.ref l0), some (.int l1), some (.int l2), some (.int l3), o4]) (st' := []) (h' := h) rfl ?_ ?_
  · refine mX_to 3 (k' := 13) (ls' := [some (.ref l0), some (.int l1), some (.int l2), some (.int l3), o4]) (st' := [.int (l3 + 1)]) (h' := h) rfl ?_
    refine lt_gen (X := fun v1 : Int32 => mX (mE mtab d) KX11_swap 13 [some (.ref l0), some (.int l1), some (.int l2), some (.int l3), o4] [.int v1] h) fun v1 => ?_
    refine mX_to 1 (k' := 14) (ls' := [some (.ref l0), some (.int l1), some (.int l2), some (.int l3), some (.int v1)]) (st' := []) (h' := h) rfl ?_
    rfl
  · refine mX_to 1 (k' := 49) (ls' := [some (.ref l0), some (.int l1), some (.int l2), some (.int l3), o4]) (st' := [.int l1]) (h' := h) rfl ?_
    refine mX_br (t := 52) (f := 50) (ls' := [some (.ref l0), some (.int l1), some (.int l2), some (.int l3), o4]) (st' := []) (h' := h) rfl ?_ ?_
    · refine mX_to 2 (k' := 54) (ls' := [some (.ref l0), some (.int l1), some (.int l2), some (.int l3), o4]) (st' := [.int (-1), .int l2]) (h' := h) rfl ?_
      refine mX_br (t := 55) (f := 57) (ls' := [some (.ref l0), some (.int l1), some (.int l2), some (.int l3), o4]) (st' := []) (h' := h) rfl ?_ ?_
      · refine mX_to 2 (k' := 65) (ls' := [some (.ref l0), some (.int l1), some (.int l2), some (.int l3), o4]) (st' := [.int (-1000)]) (h' := h) rfl ?_
        exact mX_reti rfl
      · refine mX_to 3 (k' := 60) (ls' := [some (.ref l0), some (.int l1), some (.int l2), some (.int l3), o4]) (st' := [.int 10, .int l2, .ref l0]) (h' := h) rfl ?_
        refine mX_ckt (c := ¬ (10 : Int32) = 0) (k' := 61) (ls' := [some (.ref l0), some (.int l1), some (.int l2), some (.int l3), o4]) (st' := [.int (l2 / 10), .ref l0]) (h' := h) (by decide) rfl ?_
        refine mX_to 2 (k' := 63) (ls' := [some (.ref l0), some (.int l1), some (.int l2), some (.int l3), o4]) (st' := [.int 10, .int l2, .int (l2 / 10), .ref l0]) (h' := h) rfl ?_
        refine mX_ckt (c := ¬ (10 : Int32) = 0) (k' := 64) (ls' := [some (.ref l0), some (.int l1), some (.int l2), some (.int l3), o4]) (st' := [.int (l2 - l2 / 10 * 10), .int (l2 / 10), .ref l0]) (h' := h) (by decide) rfl ?_
        refine mX_ckc (m := mcl (mE mtab d 307 [.ref l0, .int (l2 / 10), .int (l2 - l2 / 10 * 10)] h) 1 65 [some (.ref l0), some (.int l1), some (.int l2), some (.int l3), o4] []) rfl ?_
        refine mk_cI ?_
        intro x3 h2
        exact mX_reti rfl
    · refine mX_to 2 (k' := 65) (ls' := [some (.ref l0), some (.int l1), some (.int l2), some (.int l3), o4]) (st' := [.int l2]) (h' := h) rfl ?_
      exact mX_reti rfl
theorem D_X11_swap_14 (d : Nat) (h : MH) (l0 : Nat) (l1 : Int32) (l2 : Int32) (l3 : Int32) (l4 : Int32) : mX (mE mtab d) KX11_swap 14 [some (.ref l0), some (.int l1), some (.int l2), some (.int l3), some (.int l4)] [] h = ck (kd h l0 = 12) (ck ((kd h (gR h l0 0) = 20 ∨ kd h (gR h l0 0) = 24) ∧ ib (0 : Int32) (ln h (gR h l0 0))) ((if l4 < (gI h (gR h l0 0) (ix (0 : Int32))) then (if l2 = (-1) then mX (mE mtab d) KX11_swap 38 [some (.ref l0), some (.int l1), some (.int l2), some (.int l3), some (.int l4)] [] h else ck (kd h l0 = 12) (cI (mE mtab d 307 [.ref l0, .int l3, .int l4] h) (fun x5 h4 => cI (mE mtab d 157 [.int x5] h4) (fun x7 h6 => ck (kd h6 l0 = 12) (cI (mE mtab d 307 [.ref l0, .int (l2 / 10), .int (l2 - l2 / 10 * 10)] h6) (fun x9 h8 => cI (mE mtab d 157 [.int x9] h8) (fun x11 h10 => (if x7 < x11 then mX (mE mtab d) KX11_swap 38 [some (.ref l0), some (.int l1), some (.int l2), some (.int l3), some (.int l4)] [] h10 else mX (mE mtab d) KX11_swap 44 [some (.ref l0), some (.int l1), some (.int l2), some (.int l3), some (.int l4)] [] h10)))))))) else mX (mE mtab d) KX11_swap 4 [some (.ref l0), some (.int l1), some (.int l2), some (.int (l3 + 1)), some (.int l4)] [] h))) := by
  refine mX_to 2 (k' := 16) (ls' := [some (.ref l0), some (.int l1), some (.int l2), some (.int l3), some (.int l4)]) (st' := [.ref l0, .int l4]) (h' := h) rfl ?_
  refine mX_ck (k' := 17) (ls' := [some (.ref l0), some (.int l1), some (.int l2), some (.int l3), some (.int l4)]) (st' := [.ref (gR h l0 0), .int l4]) (h' := h) rfl ?_
  refine mX_to 1 (k' := 18) (ls' := [some (.ref l0), some (.int l1), some (.int l2), some (.int l3), some (.int l4)]) (st' := [.int 0, .ref (gR h l0 0), .int l4]) (h' := h) rfl ?_
  refine mX_ck (k' := 19) (ls' := [some (.ref l0), some (.int l1), some (.int l2), some (.int l3), some (.int l4)]) (st' := [.int (gI h (gR h l0 0) (ix (0 : Int32))), .int l4]) (h' := h) rfl ?_
  refine mX_br (t := 20) (f := 46) (ls' := [some (.ref l0), some (.int l1), some (.int l2), some (.int l3), some (.int l4)]) (st' := []) (h' := h) rfl ?_ ?_
  · refine mX_to 2 (k' := 22) (ls' := [some (.ref l0), some (.int l1), some (.int l2), some (.int l3), some (.int l4)]) (st' := [.int (-1), .int l2]) (h' := h) rfl ?_
    refine mX_br (t := 38) (f := 23) (ls' := [some (.ref l0), some (.int l1), some (.int l2), some (.int l3), some (.int l4)]) (st' := []) (h' := h) rfl ?_ ?_
    · rfl
    · refine mX_to 3 (k' := 26) (ls' := [some (.ref l0), some (.int l1), some (.int l2), some (.int l3), some (.int l4)]) (st' := [.int l4, .int l3, .ref l0]) (h' := h) rfl ?_
      refine mX_ckc (m := mcl (mE mtab d 307 [.ref l0, .int l3, .int l4] h) 1 27 [some (.ref l0), some (.int l1), some (.int l2), some (.int l3), some (.int l4)] []) rfl ?_
      refine mk_cI ?_
      intro x5 h4
      refine mX_cI (o := mE mtab d 157 [.int x5] h4) (k' := 28) (ls' := [some (.ref l0), some (.int l1), some (.int l2), some (.int l3), some (.int l4)]) (st' := []) rfl ?_
      intro x7 h6
      refine mX_to 3 (k' := 31) (ls' := [some (.ref l0), some (.int l1), some (.int l2), some (.int l3), some (.int l4)]) (st' := [.int 10, .int l2, .ref l0, .int x7]) (h' := h6) rfl ?_
      refine mX_ckt (c := ¬ (10 : Int32) = 0) (k' := 32) (ls' := [some (.ref l0), some (.int l1), some (.int l2), some (.int l3), some (.int l4)]) (st' := [.int (l2 / 10), .ref l0, .int x7]) (h' := h6) (by decide) rfl ?_
      refine mX_to 2 (k' := 34) (ls' := [some (.ref l0), some (.int l1), some (.int l2), some (.int l3), some (.int l4)]) (st' := [.int 10, .int l2, .int (l2 / 10), .ref l0, .int x7]) (h' := h6) rfl ?_
      refine mX_ckt (c := ¬ (10 : Int32) = 0) (k' := 35) (ls' := [some (.ref l0), some (.int l1), some (.int l2), some (.int l3), some (.int l4)]) (st' := [.int (l2 - l2 / 10 * 10), .int (l2 / 10), .ref l0, .int x7]) (h' := h6) (by decide) rfl ?_
      refine mX_ckc (m := mcl (mE mtab d 307 [.ref l0, .int (l2 / 10), .int (l2 - l2 / 10 * 10)] h6) 1 36 [some (.ref l0), some (.int l1), some (.int l2), some (.int l3), some (.int l4)] [.int x7]) rfl ?_
      refine mk_cI ?_
      intro x9 h8
      refine mX_cI (o := mE mtab d 157 [.int x9] h8) (k' := 37) (ls' := [some (.ref l0), some (.int l1), some (.int l2), some (.int l3), some (.int l4)]) (st' := [.int x7]) rfl ?_
      intro x11 h10
      refine mX_br (t := 38) (f := 44) (ls' := [some (.ref l0), some (.int l1), some (.int l2), some (.int l3), some (.int l4)]) (st' := []) (h' := h10) rfl ?_ ?_
      · rfl
      · rfl
  · refine mX_to 2 (k' := 4) (ls' := [some (.ref l0), some (.int l1), some (.int l2), some (.int (l3 + 1)), some (.int l4)]) (st' := []) (h' := h) rfl ?_
    rfl
theorem D_X11_swap_38 (d : Nat) (h : MH) (l0 : Nat) (l1 : Int32) (l2 : Int32) (l3 : Int32) (l4 : Int32) : mX (mE mtab d) KX11_swap 38 [some (.ref l0), some (.int l1), some (.int l2), some (.int l3), some (.int l4)] [] h = lt_ ((10 * l3) + l4) fun v13 => mX (mE mtab d) KX11_swap 44 [some (.ref l0), some (.int l1), some (.int v13), some (.int l3), some (.int l4)] [] h := by
  refine mX_to 5 (k' := 43) (ls' := [some (.ref l0), some (.int l1), some (.int l2), some (.int l3), some (.int l4)]) (st' := [.int ((10 * l3) + l4)]) (h' := h) rfl ?_
  refine lt_gen (X := fun v13 : Int32 => mX (mE mtab d) KX11_swap 43 [some (.ref l0), some (.int l1), some (.int l2), some (.int l3), some (.int l4)] [.int v13] h) fun v13 => ?_
  refine mX_to 1 (k' := 44) (ls' := [some (.ref l0), some (.int l1), some (.int v13), some (.int l3), some (.int l4)]) (st' := []) (h' := h) rfl ?_
  rfl
theorem D_X11_swap_44 (d : Nat) (h : MH) (l0 : Nat) (l1 : Int32) (l2 : Int32) (l3 : Int32) (l4 : Int32) : mX (mE mtab d) KX11_swap 44 [some (.ref l0), some (.int l1), some (.int l2), some (.int l3), some (.int l4)] [] h = mX (mE mtab d) KX11_swap 14 [some (.ref l0), some (.int l1), some (.int l2), some (.int l3), some (.int (l4 + 1))] [] h := by
  refine mX_to 2 (k' := 14) (ls' := [some (.ref l0), some (.int l1), some (.int l2), some (.int l3), some (.int (l4 + 1))]) (st' := []) (h' := h) rfl ?_
  rfl
theorem D_X11_swap (d : Nat) (h : MH) (a0 : Nat) (a1 : Int32) : mE mtab (d + 1) 308 [.ref a0, .int a1] h = mX (mE mtab d) KX11_swap 4 [some (.ref a0), some (.int a1), some (.int (-1)), some (.int 0), none] [] h := by
  refine mE_eq (q := (yX11_swap, cX11_swap, 5, (some .int), KX11_swap)) (C := KX11_swap) (ls := [some (.ref a0), some (.int a1), none, none, none]) rfl rfl rfl rfl ?_
  refine mX_to 4 (k' := 4) (ls' := [some (.ref a0), some (.int a1), some (.int (-1)), some (.int 0), none]) (st' := []) (h' := h) rfl ?_
  rfl
