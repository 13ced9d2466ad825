/-! EQUATIONS OF THE METHODS (written by wip/gen/dgen.py) -/
theorem D_X10_send_16 (d : Nat) (h : MH) (l0 : Nat) (l1 : Int32) (l2 : Int32) (l3 : Int32) (l4 : Int32) : mX (mE mtab d) KX10_send 16 [some (.ref l0), some (.int l1), some (.int l2), some (.int l3), some (.int l4)] [] h = (if l4 < 9 then (if (jabs (l2 + (l1 * (l4 - 4)))) < (jabs (l2 + (l1 * (l3 - 4)))) then mX (mE mtab d) KX10_send 38 [some (.ref l0), some (.int l1), some (.int l2), some (.int l4), some (.int l4)] [] h else mX (mE mtab d) KX10_send 38 [some (.ref l0), some (.int l1), some (.int l2), some (.int l3), some (.int l4)] [] h) else some (.int l3, h)) := by
  refine mX_to 2 (k' := 18) (ls' := [some (.ref l0), some (.int l1), some (.int l2), some (.int l3), some (.int l4)]) (st' := [.int 9, .int l4]) (h' := h) rfl ?_
  refine mX_br (t := 19) (f := 40) (ls' := [some (.ref l0), some (.int l1), some (.int l2), some (.int l3), some (.int l4)]) (st' := []) (h' := h) rfl ?_ ?_
  · refine mX_to 16 (k' := 35) (ls' := [some (.ref l0), some (.int l1), some (.int l2), some (.int l3), some (.int l4)]) (st' := [.int (jabs (l2 + (l1 * (l3 - 4)))), .int (jabs (l2 + (l1 * (l4 - 4))))]) (h' := h) rfl ?_
    refine mX_br (t := 36) (f := 38) (ls' := [some (.ref l0), some (.int l1), some (.int l2), some (.int l3), some (.int l4)]) (st' := []) (h' := h) rfl ?_ ?_
    · refine mX_to 2 (k' := 38) (ls' := [some (.ref l0), some (.int l1), some (.int l2), some (.int l4), some (.int l4)]) (st' := []) (h' := h) rfl ?_
      rfl
    · rfl
  · refine mX_to 1 (k' := 41) (ls' := [some (.ref l0), some (.int l1), some (.int l2), some (.int l3), some (.int l4)]) (st' := [.int l3]) (h' := h) rfl ?_
    exact mX_reti rfl
theorem D_X10_send_38 (d : Nat) (h : MH) (l0 : Nat) (l1 : Int32) (l2 : Int32) (l3 : Int32) (l4 : Int32) : mX (mE mtab d) KX10_send 38 [some (.ref l0), some (.int l1), some (.int l2), some (.int l3), some (.int l4)] [] h = mX (mE mtab d) KX10_send 16 [some (.ref l0), some (.int l1), some (.int l2), some (.int l3), some (.int (l4 + 1))] [] h := by
  refine mX_to 2 (k' := 16) (ls' := [some (.ref l0), some (.int l1), some (.int l2), some (.int l3), some (.int (l4 + 1))]) (st' := []) (h' := h) rfl ?_
  rfl
theorem D_X10_send (d : Nat) (h : MH) (a0 : Nat) (a1 : Int32) : mE mtab (d + 1) 309 [.ref a0, .int a1] h = cI (mE mtab d 11 [.int a1, .int 1, .int 9] h) (fun x2 h1 => (if x2 = 0 then some (.int (-1), h1) else ck (kd h1 a0 = 11) (ck (kd h1 (gR h1 a0 0) = 1) (ck (kd h1 (gR h1 (gR h1 a0 0) 0) = 10) (cI (mE mtab d 139 [.ref (gR h1 (gR h1 a0 0) 0)] h1) (fun x4 h3 => mX (mE mtab d) KX10_send 16 [some (.ref a0), some (.int a1), some (.int x4), some (.int 0), some (.int 1)] [] h3)))))) := by
  refine mE_eq (q := (yX10_send, cX10_send, 5, (some .int), KX10_send)) (C := KX10_send) (ls := [some (.ref a0), some (.int a1), none, none, none]) rfl rfl rfl rfl ?_
  refine mX_to 3 (k' := 3) (ls' := [some (.ref a0), some (.int a1), none, none, none]) (st' := [.int 9, .int 1, .int a1]) (h' := h) rfl ?_
  refine mX_cI (o := mE mtab d 11 [.int a1, .int 1, .int 9] h) (k' := 4) (ls' := [some (.ref a0), some (.int a1), none, none, none]) (st' := []) rfl ?_
  intro x2 h1
  refine mX_br (t := 5) (f := 7) (ls' := [some (.ref a0), some (.int a1), none, none, none]) (st' := []) (h' := h1) rfl ?_ ?_
  · refine mX_to 1 (k' := 6) (ls' := [some (.ref a0), some (.int a1), none, none, none]) (st' := [.int (-1)]) (h' := h1) rfl ?_
    exact mX_reti rfl
  · refine mX_to 1 (k' := 8) (ls' := [some (.ref a0), some (.int a1), none, none, none]) (st' := [.ref a0]) (h' := h1) rfl ?_
    refine mX_ck (k' := 9) (ls' := [some (.ref a0), some (.int a1), none, none, none]) (st' := [.ref (gR h1 a0 0)]) (h' := h1) rfl ?_
    refine mX_ck (k' := 10) (ls' := [some (.ref a0), some (.int a1), none, none, none]) (st' := [.ref (gR h1 (gR h1 a0 0) 0)]) (h' := h1) rfl ?_
    refine mX_ckc (m := mcl (mE mtab d 139 [.ref (gR h1 (gR h1 a0 0) 0)] h1) 1 11 [some (.ref a0), some (.int a1), none, none, none] []) rfl ?_
    refine mk_cI ?_
    intro x4 h3
    refine mX_to 5 (k' := 16) (ls' := [some (.ref a0), some (.int a1), some (.int x4), some (.int 0), some (.int 1)]) (st' := []) (h' := h3) rfl ?_
    rfl
theorem D_X11_send_11 (d : Nat) (h : MH) (l0 : Nat) (l1 : Int32) (l2 : Int32) (l3 : Int32) : mX (mE mtab d) KX11_send 11 [some (.ref l0), some (.int l1), some (.int l2), some (.int l3)] [] h = (if l3 < 9 then ck (kd h l0 = 12) (cI (mE mtab d 156 [.ref l0] h) (fun x4 h3 => cI (mE mtab d 157 [.int (x4 + (l1 * (l3 - 4)))] h3) (fun x6 h5 => ck (kd h5 l0 = 12) (cI (mE mtab d 156 [.ref l0] h5) (fun x8 h7 => cI (mE mtab d 157 [.int (x8 + (l1 * (l2 - 4)))] h7) (fun x10 h9 => (if x6 < x10 then mX (mE mtab d) KX11_send 35 [some (.ref l0), some (.int l1), some (.int l3), some (.int l3)] [] h9 else mX (mE mtab d) KX11_send 35 [some (.ref l0), some (.int l1), some (.int l2), some (.int l3)] [] h9))))))) else some (.int l2, h)) := by
  refine mX_to 2 (k' := 13) (ls' := [some (.ref l0), some (.int l1), some (.int l2), some (.int l3)]) (st' := [.int 9, .int l3]) (h' := h) rfl ?_
  refine mX_br (t := 14) (f := 37) (ls' := [some (.ref l0), some (.int l1), some (.int l2), some (.int l3)]) (st' := []) (h' := h) rfl ?_ ?_
  · refine mX_to 1 (k' := 15) (ls' := [some (.ref l0), some (.int l1), some (.int l2), some (.int l3)]) (st' := [.ref l0]) (h' := h) rfl ?_
    refine mX_ckc (m := mcl (mE mtab d 156 [.ref l0] h) 1 16 [some (.ref l0), some (.int l1), some (.int l2), some (.int l3)] []) rfl ?_
    refine mk_cI ?_
    intro x4 h3
    refine mX_to 6 (k' := 22) (ls' := [some (.ref l0), some (.int l1), some (.int l2), some (.int l3)]) (st' := [.int (x4 + (l1 * (l3 - 4)))]) (h' := h3) rfl ?_
    refine mX_cI (o := mE mtab d 157 [.int (x4 + (l1 * (l3 - 4)))] h3) (k' := 23) (ls' := [some (.ref l0), some (.int l1), some (.int l2), some (.int l3)]) (st' := []) rfl ?_
    intro x6 h5
    refine mX_to 1 (k' := 24) (ls' := [some (.ref l0), some (.int l1), some (.int l2), some (.int l3)]) (st' := [.ref l0, .int x6]) (h' := h5) rfl ?_
    refine mX_ckc (m := mcl (mE mtab d 156 [.ref l0] h5) 1 25 [some (.ref l0), some (.int l1), some (.int l2), some (.int l3)] [.int x6]) rfl ?_
    refine mk_cI ?_
    intro x8 h7
    refine mX_to 6 (k' := 31) (ls' := [some (.ref l0), some (.int l1), some (.int l2), some (.int l3)]) (st' := [.int (x8 + (l1 * (l2 - 4))), .int x6]) (h' := h7) rfl ?_
    refine mX_cI (o := mE mtab d 157 [.int (x8 + (l1 * (l2 - 4)))] h7) (k' := 32) (ls' := [some (.ref l0), some (.int l1), some (.int l2), some (.int l3)]) (st' := [.int x6]) rfl ?_
    intro x10 h9
    refine mX_br (t := 33) (f := 35) (ls' := [some (.ref l0), some (.int l1), some (.int l2), some (.int l3)]) (st' := []) (h' := h9) rfl ?_ ?_
    · refine mX_to 2 (k' := 35) (ls' := [some (.ref l0), some (.int l1), some (.int l3), some (.int l3)]) (st' := []) (h' := h9) rfl ?_
      rfl
    · rfl
  · refine mX_to 1 (k' := 38) (ls' := [some (.ref l0), some (.int l1), some (.int l2), some (.int l3)]) (st' := [.int l2]) (h' := h) rfl ?_
    exact mX_reti rfl
theorem D_X11_send_35 (d : Nat) (h : MH) (l0 : Nat) (l1 : Int32) (l2 : Int32) (l3 : Int32) : mX (mE mtab d) KX11_send 35 [some (.ref l0), some (.int l1), some (.int l2), some (.int l3)] [] h = mX (mE mtab d) KX11_send 11 [some (.ref l0), some (.int l1), some (.int l2), some (.int (l3 + 1))] [] h := by
  refine mX_to 2 (k' := 11) (ls' := [some (.ref l0), some (.int l1), some (.int l2), some (.int (l3 + 1))]) (st' := []) (h' := h) rfl ?_
  rfl
theorem D_X11_send (d : Nat) (h : MH) (a0 : Nat) (a1 : Int32) : mE mtab (d + 1) 310 [.ref a0, .int a1] h = cI (mE mtab d 14 [.int a1, .int 1, .int 9] h) (fun x2 h1 => (if x2 = 0 then some (.int (-1), h1) else mX (mE mtab d) KX11_send 11 [some (.ref a0), some (.int a1), some (.int 0), some (.int 1)] [] h1)) := by
  refine mE_eq (q := (yX11_send, cX11_send, 4, (some .int), KX11_send)) (C := KX11_send) (ls := [some (.ref a0), some (.int a1), none, none]) rfl rfl rfl rfl ?_
  refine mX_to 3 (k' := 3) (ls' := [some (.ref a0), some (.int a1), none, none]) (st' := [.int 9, .int 1, .int a1]) (h' := h) rfl ?_
  refine mX_cI (o := mE mtab d 14 [.int a1, .int 1, .int 9] h) (k' := 4) (ls' := [some (.ref a0), some (.int a1), none, none]) (st' := []) rfl ?_
  intro x2 h1
  refine mX_br (t := 5) (f := 7) (ls' := [some (.ref a0), some (.int a1), none, none]) (st' := []) (h' := h1) rfl ?_ ?_
  · refine mX_to 1 (k' := 6) (ls' := [some (.ref a0), some (.int a1), none, none]) (st' := [.int (-1)]) (h' := h1) rfl ?_
    exact mX_reti rfl
  · refine mX_to 4 (k' := 11) (ls' := [some (.ref a0), some (.int a1), some (.int 0), some (.int 1)]) (st' := []) (h' := h1) rfl ?_
    rfl
theorem D_X0_hear (d : Nat) (h : MH) (a0 : Nat) (a1 : Int32) (a2 : Int32) : mE mtab (d + 1) 311 [.ref a0, .int a1, .int a2] h = ck (kd h a0 = 1) ((if (gI h a0 8) < 8 then ck (kd h a0 = 1) (ck (kd h a0 = 1) (ck (kd h (gR h a0 6) = 20 ∧ ib (gI h a0 8) (ln h (gR h a0 6))) (lt_ (sI h (gR h a0 6) (ix (gI h a0 8)) a1) fun h1 => ck (kd h1 a0 = 1) (ck (kd h1 a0 = 1) (ck (kd h1 (gR h1 a0 7) = 20 ∧ ib (gI h1 a0 8) (ln h1 (gR h1 a0 7))) (lt_ (sI h1 (gR h1 a0 7) (ix (gI h1 a0 8)) a2) fun h2 => ck (kd h2 a0 = 1) (ck (kd h2 a0 = 1) (lt_ (sI h2 a0 8 ((gI h2 a0 8) + 1)) fun h3 => ck (kd h3 a0 = 1) (some (.int (gI h3 a0 8), h3)))))))))) else some (.int (-2), h))) := by
  refine mE_eq (q := (yX0_hear, cX0_hear, 3, (some .int), KX0_hear)) (C := KX0_hear) (ls := [some (.ref a0), some (.int a1), some (.int a2)]) rfl rfl rfl rfl ?_
  refine mX_to 1 (k' := 1) (ls' := [some (.ref a0), some (.int a1), some (.int a2)]) (st' := [.ref a0]) (h' := h) rfl ?_
  refine mX_ck (k' := 2) (ls' := [some (.ref a0), some (.int a1), some (.int a2)]) (st' := [.int (gI h a0 8)]) (h' := h) rfl ?_
  refine mX_to 1 (k' := 3) (ls' := [some (.ref a0), some (.int a1), some (.int a2)]) (st' := [.int 8, .int (gI h a0 8)]) (h' := h) rfl ?_
  refine mX_br (t := 6) (f := 4) (ls' := [some (.ref a0), some (.int a1), some (.int a2)]) (st' := []) (h' := h) rfl ?_ ?_
  · refine mX_to 1 (k' := 7) (ls' := [some (.ref a0), some (.int a1), some (.int a2)]) (st' := [.ref a0]) (h' := h) rfl ?_
    refine mX_ck (k' := 8) (ls' := [some (.ref a0), some (.int a1), some (.int a2)]) (st' := [.ref (gR h a0 6)]) (h' := h) rfl ?_
    refine mX_to 1 (k' := 9) (ls' := [some (.ref a0), some (.int a1), some (.int a2)]) (st' := [.ref a0, .ref (gR h a0 6)]) (h' := h) rfl ?_
    refine mX_ck (k' := 10) (ls' := [some (.ref a0), some (.int a1), some (.int a2)]) (st' := [.int (gI h a0 8), .ref (gR h a0 6)]) (h' := h) rfl ?_
    refine mX_to 1 (k' := 11) (ls' := [some (.ref a0), some (.int a1), some (.int a2)]) (st' := [.int a1, .int (gI h a0 8), .ref (gR h a0 6)]) (h' := h) rfl ?_
    refine mX_ck (k' := 12) (ls' := [some (.ref a0), some (.int a1), some (.int a2)]) (st' := []) (h' := (sI h (gR h a0 6) (ix (gI h a0 8)) a1)) rfl ?_
    refine lt_gen (X := fun h1 : MH => mX (mE mtab d) KX0_hear 12 [some (.ref a0), some (.int a1), some (.int a2)] [] h1) fun h1 => ?_
    refine mX_to 1 (k' := 13) (ls' := [some (.ref a0), some (.int a1), some (.int a2)]) (st' := [.ref a0]) (h' := h1) rfl ?_
    refine mX_ck (k' := 14) (ls' := [some (.ref a0), some (.int a1), some (.int a2)]) (st' := [.ref (gR h1 a0 7)]) (h' := h1) rfl ?_
    refine mX_to 1 (k' := 15) (ls' := [some (.ref a0), some (.int a1), some (.int a2)]) (st' := [.ref a0, .ref (gR h1 a0 7)]) (h' := h1) rfl ?_
    refine mX_ck (k' := 16) (ls' := [some (.ref a0), some (.int a1), some (.int a2)]) (st' := [.int (gI h1 a0 8), .ref (gR h1 a0 7)]) (h' := h1) rfl ?_
    refine mX_to 1 (k' := 17) (ls' := [some (.ref a0), some (.int a1), some (.int a2)]) (st' := [.int a2, .int (gI h1 a0 8), .ref (gR h1 a0 7)]) (h' := h1) rfl ?_
    refine mX_ck (k' := 18) (ls' := [some (.ref a0), some (.int a1), some (.int a2)]) (st' := []) (h' := (sI h1 (gR h1 a0 7) (ix (gI h1 a0 8)) a2)) rfl ?_
    refine lt_gen (X := fun h2 : MH => mX (mE mtab d) KX0_hear 18 [some (.ref a0), some (.int a1), some (.int a2)] [] h2) fun h2 => ?_
    refine mX_to 2 (k' := 20) (ls' := [some (.ref a0), some (.int a1), some (.int a2)]) (st' := [.ref a0, .ref a0]) (h' := h2) rfl ?_
    refine mX_ck (k' := 21) (ls' := [some (.ref a0), some (.int a1), some (.int a2)]) (st' := [.int (gI h2 a0 8), .ref a0]) (h' := h2) rfl ?_
    refine mX_to 2 (k' := 23) (ls' := [some (.ref a0), some (.int a1), some (.int a2)]) (st' := [.int ((gI h2 a0 8) + 1), .ref a0]) (h' := h2) rfl ?_
    refine mX_ck (k' := 24) (ls' := [some (.ref a0), some (.int a1), some (.int a2)]) (st' := []) (h' := (sI h2 a0 8 ((gI h2 a0 8) + 1))) rfl ?_
    refine lt_gen (X := fun h3 : MH => mX (mE mtab d) KX0_hear 24 [some (.ref a0), some (.int a1), some (.int a2)] [] h3) fun h3 => ?_
    refine mX_to 1 (k' := 25) (ls' := [some (.ref a0), some (.int a1), some (.int a2)]) (st' := [.ref a0]) (h' := h3) rfl ?_
    refine mX_ck (k' := 26) (ls' := [some (.ref a0), some (.int a1), some (.int a2)]) (st' := [.int (gI h3 a0 8)]) (h' := h3) rfl ?_
    exact mX_reti rfl
  · refine mX_to 1 (k' := 5) (ls' := [some (.ref a0), some (.int a1), some (.int a2)]) (st' := [.int (-2)]) (h' := h) rfl ?_
    exact mX_reti rfl
theorem D_X10_said (d : Nat) (h : MH) (a0 : Nat) (a1 : Int32) (a2 : Int32) : mE mtab (d + 1) 312 [.ref a0, .int a1, .int a2] h = (if a1 = (-1) then ck (kd h a0 = 11) (ck (kd h (gR h a0 0) = 1) (lt_ (sI h (gR h a0 0) 8 0) fun h1 => some (.int 0, h1))) else ck (kd h a0 = 11) (ck (kd h (gR h a0 0) = 1) (ck (kd h (gR h (gR h a0 0) 0) = 10) (cI (mE mtab d 17 [.ref (gR h (gR h a0 0) 0), .int a1] h) (fun x3 h2 => (if x3 = 0 then some (.int (-2), h2) else cI (mE mtab d 11 [.int a2, .int 0, .int 3] h2) (fun x5 h4 => (if x5 = 0 then some (.int (-2), h4) else ck (kd h4 a0 = 11) (ck (kd h4 (gR h4 a0 0) = 1) (cI (mE mtab d 311 [.ref (gR h4 a0 0), .int a1, .int a2] h4) (fun x7 h6 => some (.int x7, h6)))))))))))) := by
  refine mE_eq (q := (yX10_said, cX10_said, 3, (some .int), KX10_said)) (C := KX10_said) (ls := [some (.ref a0), some (.int a1), some (.int a2)]) rfl rfl rfl rfl ?_
  refine mX_to 2 (k' := 2) (ls' := [some (.ref a0), some (.int a1), some (.int a2)]) (st' := [.int (-1), .int a1]) (h' := h) rfl ?_
  refine mX_br (t := 3) (f := 9) (ls' := [some (.ref a0), some (.int a1), some (.int a2)]) (st' := []) (h' := h) rfl ?_ ?_
  · refine mX_to 1 (k' := 4) (ls' := [some (.ref a0), some (.int a1), some (.int a2)]) (st' := [.ref a0]) (h' := h) rfl ?_
    refine mX_ck (k' := 5) (ls' := [some (.ref a0), some (.int a1), some (.int a2)]) (st' := [.ref (gR h a0 0)]) (h' := h) rfl ?_
    refine mX_to 1 (k' := 6) (ls' := [some (.ref a0), some (.int a1), some (.int a2)]) (st' := [.int 0, .ref (gR h a0 0)]) (h' := h) rfl ?_
    refine mX_ck (k' := 7) (ls' := [some (.ref a0), some (.int a1), some (.int a2)]) (st' := []) (h' := (sI h (gR h a0 0) 8 0)) rfl ?_
    refine lt_gen (X := fun h1 : MH => mX (mE mtab d) KX10_said 7 [some (.ref a0), some (.int a1), some (.int a2)] [] h1) fun h1 => ?_
    refine mX_to 1 (k' := 8) (ls' := [some (.ref a0), some (.int a1), some (.int a2)]) (st' := [.int 0]) (h' := h1) rfl ?_
    exact mX_reti rfl
  · refine mX_to 1 (k' := 10) (ls' := [some (.ref a0), some (.int a1), some (.int a2)]) (st' := [.ref a0]) (h' := h) rfl ?_
    refine mX_ck (k' := 11) (ls' := [some (.ref a0), some (.int a1), some (.int a2)]) (st' := [.ref (gR h a0 0)]) (h' := h) rfl ?_
    refine mX_ck (k' := 12) (ls' := [some (.ref a0), some (.int a1), some (.int a2)]) (st' := [.ref (gR h (gR h a0 0) 0)]) (h' := h) rfl ?_
    refine mX_to 1 (k' := 13) (ls' := [some (.ref a0), some (.int a1), some (.int a2)]) (st' := [.int a1, .ref (gR h (gR h a0 0) 0)]) (h' := h) rfl ?_
    refine mX_ckc (m := mcl (mE mtab d 17 [.ref (gR h (gR h a0 0) 0), .int a1] h) 1 14 [some (.ref a0), some (.int a1), some (.int a2)] []) rfl ?_
    refine mk_cI ?_
    intro x3 h2
    refine mX_br (t := 20) (f := 15) (ls' := [some (.ref a0), some (.int a1), some (.int a2)]) (st' := []) (h' := h2) rfl ?_ ?_
    · refine mX_to 1 (k' := 21) (ls' := [some (.ref a0), some (.int a1), some (.int a2)]) (st' := [.int (-2)]) (h' := h2) rfl ?_
      exact mX_reti rfl
    · refine mX_to 3 (k' := 18) (ls' := [some (.ref a0), some (.int a1), some (.int a2)]) (st' := [.int 3, .int 0, .int a2]) (h' := h2) rfl ?_
      refine mX_cI (o := mE mtab d 11 [.int a2, .int 0, .int 3] h2) (k' := 19) (ls' := [some (.ref a0), some (.int a1), some (.int a2)]) (st' := []) rfl ?_
      intro x5 h4
      refine mX_br (t := 20) (f := 22) (ls' := [some (.ref a0), some (.int a1), some (.int a2)]) (st' := []) (h' := h4) rfl ?_ ?_
      · refine mX_to 1 (k' := 21) (ls' := [some (.ref a0), some (.int a1), some (.int a2)]) (st' := [.int (-2)]) (h' := h4) rfl ?_
        exact mX_reti rfl
      · refine mX_to 1 (k' := 23) (ls' := [some (.ref a0), some (.int a1), some (.int a2)]) (st' := [.ref a0]) (h' := h4) rfl ?_
        refine mX_ck (k' := 24) (ls' := [some (.ref a0), some (.int a1), some (.int a2)]) (st' := [.ref (gR h4 a0 0)]) (h' := h4) rfl ?_
        refine mX_to 2 (k' := 26) (ls' := [some (.ref a0), some (.int a1), some (.int a2)]) (st' := [.int a2, .int a1, .ref (gR h4 a0 0)]) (h' := h4) rfl ?_
        refine mX_ckc (m := mcl (mE mtab d 311 [.ref (gR h4 a0 0), .int a1, .int a2] h4) 1 27 [some (.ref a0), some (.int a1), some (.int a2)] []) rfl ?_
        refine mk_cI ?_
        intro x7 h6
        exact mX_reti rfl
theorem D_X11_said (d : Nat) (h : MH) (a0 : Nat) (a1 : Int32) (a2 : Int32) : mE mtab (d + 1) 313 [.ref a0, .int a1, .int a2] h = (if a1 = (-1) then ck (kd h a0 = 12) (ck (kd h (gR h a0 0) = 20 ∧ ib (5 : Int32) (ln h (gR h a0 0))) (lt_ (sI h (gR h a0 0) (ix (5 : Int32)) 0) fun h1 => some (.int 0, h1))) else ck (kd h a0 = 12) (cI (mE mtab d 20 [.ref a0, .int a1] h) (fun x3 h2 => (if x3 = 0 then some (.int (-2), h2) else cI (mE mtab d 14 [.int a2, .int 0, .int 3] h2) (fun x5 h4 => (if x5 = 0 then some (.int (-2), h4) else ck (kd h4 a0 = 12) (ck ((kd h4 (gR h4 a0 0) = 20 ∨ kd h4 (gR h4 a0 0) = 24) ∧ ib (5 : Int32) (ln h4 (gR h4 a0 0))) ((if (gI h4 (gR h4 a0 0) (ix (5 : Int32))) = 8 then some (.int (-2), h4) else ck (kd h4 a0 = 12) (ck (kd h4 a0 = 12) (ck ((kd h4 (gR h4 a0 0) = 20 ∨ kd h4 (gR h4 a0 0) = 24) ∧ ib (5 : Int32) (ln h4 (gR h4 a0 0))) (ck (kd h4 (gR h4 a0 0) = 20 ∧ ib (42 + (2 * (gI h4 (gR h4 a0 0) (ix (5 : Int32))))) (ln h4 (gR h4 a0 0))) (lt_ (sI h4 (gR h4 a0 0) (ix (42 + (2 * (gI h4 (gR h4 a0 0) (ix (5 : Int32)))))) a1) fun h6 => ck (kd h6 a0 = 12) (ck (kd h6 a0 = 12) (ck ((kd h6 (gR h6 a0 0) = 20 ∨ kd h6 (gR h6 a0 0) = 24) ∧ ib (5 : Int32) (ln h6 (gR h6 a0 0))) (ck (kd h6 (gR h6 a0 0) = 20 ∧ ib ((42 + (2 * (gI h6 (gR h6 a0 0) (ix (5 : Int32))))) + 1) (ln h6 (gR h6 a0 0))) (lt_ (sI h6 (gR h6 a0 0) (ix ((42 + (2 * (gI h6 (gR h6 a0 0) (ix (5 : Int32))))) + 1)) a2) fun h7 => ck (kd h7 a0 = 12) (ck ((kd h7 (gR h7 a0 0) = 20 ∨ kd h7 (gR h7 a0 0) = 24) ∧ ib (5 : Int32) (ln h7 (gR h7 a0 0))) (ck (kd h7 (gR h7 a0 0) = 20 ∧ ib (5 : Int32) (ln h7 (gR h7 a0 0))) (lt_ (sI h7 (gR h7 a0 0) (ix (5 : Int32)) ((gI h7 (gR h7 a0 0) (ix (5 : Int32))) + 1)) fun h8 => ck (kd h8 a0 = 12) (ck ((kd h8 (gR h8 a0 0) = 20 ∨ kd h8 (gR h8 a0 0) = 24) ∧ ib (5 : Int32) (ln h8 (gR h8 a0 0))) (some (.int (gI h8 (gR h8 a0 0) (ix (5 : Int32))), h8))))))))))))))))))))))) := by
  refine mE_eq (q := (yX11_said, cX11_said, 3, (some .int), KX11_said)) (C := KX11_said) (ls := [some (.ref a0), some (.int a1), some (.int a2)]) rfl rfl rfl rfl ?_
  refine mX_to 2 (k' := 2) (ls' := [some (.ref a0), some (.int a1), some (.int a2)]) (st' := [.int (-1), .int a1]) (h' := h) rfl ?_
  refine mX_br (t := 3) (f := 10) (ls' := [some (.ref a0), some (.int a1), some (.int a2)]) (st' := []) (h' := h) rfl ?_ ?_
  · refine mX_to 1 (k' := 4) (ls' := [some (.ref a0), some (.int a1), some (.int a2)]) (st' := [.ref a0]) (h' := h) rfl ?_
    refine mX_ck (k' := 5) (ls' := [some (.ref a0), some (.int a1), some (.int a2)]) (st' := [.ref (gR h a0 0)]) (h' := h) rfl ?_
    refine mX_to 2 (k' := 7) (ls' := [some (.ref a0), some (.int a1), some (.int a2)]) (st' := [.int 0, .int 5, .ref (gR h a0 0)]) (h' := h) rfl ?_
    refine mX_ck (k' := 8) (ls' := [some (.ref a0), some (.int a1), some (.int a2)]) (st' := []) (h' := (sI h (gR h a0 0) (ix (5 : Int32)) 0)) rfl ?_
    refine lt_gen (X := fun h1 : MH => mX (mE mtab d) KX11_said 8 [some (.ref a0), some (.int a1), some (.int a2)] [] h1) fun h1 => ?_
    refine mX_to 1 (k' := 9) (ls' := [some (.ref a0), some (.int a1), some (.int a2)]) (st' := [.int 0]) (h' := h1) rfl ?_
    exact mX_reti rfl
  · refine mX_to 2 (k' := 12) (ls' := [some (.ref a0), some (.int a1), some (.int a2)]) (st' := [.int a1, .ref a0]) (h' := h) rfl ?_
    refine mX_ckc (m := mcl (mE mtab d 20 [.ref a0, .int a1] h) 1 13 [some (.ref a0), some (.int a1), some (.int a2)] []) rfl ?_
    refine mk_cI ?_
    intro x3 h2
    refine mX_br (t := 25) (f := 14) (ls' := [some (.ref a0), some (.int a1), some (.int a2)]) (st' := []) (h' := h2) rfl ?_ ?_
    · refine mX_to 1 (k' := 26) (ls' := [some (.ref a0), some (.int a1), some (.int a2)]) (st' := [.int (-2)]) (h' := h2) rfl ?_
      exact mX_reti rfl
    · refine mX_to 3 (k' := 17) (ls' := [some (.ref a0), some (.int a1), some (.int a2)]) (st' := [.int 3, .int 0, .int a2]) (h' := h2) rfl ?_
      refine mX_cI (o := mE mtab d 14 [.int a2, .int 0, .int 3] h2) (k' := 18) (ls' := [some (.ref a0), some (.int a1), some (.int a2)]) (st' := []) rfl ?_
      intro x5 h4
      refine mX_br (t := 25) (f := 19) (ls' := [some (.ref a0), some (.int a1), some (.int a2)]) (st' := []) (h' := h4) rfl ?_ ?_
      · refine mX_to 1 (k' := 26) (ls' := [some (.ref a0), some (.int a1), some (.int a2)]) (st' := [.int (-2)]) (h' := h4) rfl ?_
        exact mX_reti rfl
      · refine mX_to 1 (k' := 20) (ls' := [some (.ref a0), some (.int a1), some (.int a2)]) (st' := [.ref a0]) (h' := h4) rfl ?_
        refine mX_ck (k' := 21) (ls' := [some (.ref a0), some (.int a1), some (.int a2)]) (st' := [.ref (gR h4 a0 0)]) (h' := h4) rfl ?_
        refine mX_to 1 (k' := 22) (ls' := [some (.ref a0), some (.int a1), some (.int a2)]) (st' := [.int 5, .ref (gR h4 a0 0)]) (h' := h4) rfl ?_
        refine mX_ck (k' := 23) (ls' := [some (.ref a0), some (.int a1), some (.int a2)]) (st' := [.int (gI h4 (gR h4 a0 0) (ix (5 : Int32)))]) (h' := h4) rfl ?_
        refine mX_to 1 (k' := 24) (ls' := [some (.ref a0), some (.int a1), some (.int a2)]) (st' := [.int 8, .int (gI h4 (gR h4 a0 0) (ix (5 : Int32)))]) (h' := h4) rfl ?_
        refine mX_br (t := 25) (f := 27) (ls' := [some (.ref a0), some (.int a1), some (.int a2)]) (st' := []) (h' := h4) rfl ?_ ?_
        · refine mX_to 1 (k' := 26) (ls' := [some (.ref a0), some (.int a1), some (.int a2)]) (st' := [.int (-2)]) (h' := h4) rfl ?_
          exact mX_reti rfl
        · refine mX_to 1 (k' := 28) (ls' := [some (.ref a0), some (.int a1), some (.int a2)]) (st' := [.ref a0]) (h' := h4) rfl ?_
          refine mX_ck (k' := 29) (ls' := [some (.ref a0), some (.int a1), some (.int a2)]) (st' := [.ref (gR h4 a0 0)]) (h' := h4) rfl ?_
          refine mX_to 3 (k' := 32) (ls' := [some (.ref a0), some (.int a1), some (.int a2)]) (st' := [.ref a0, .int 2, .int 42, .ref (gR h4 a0 0)]) (h' := h4) rfl ?_
          refine mX_ck (k' := 33) (ls' := [some (.ref a0), some (.int a1), some (.int a2)]) (st' := [.ref (gR h4 a0 0), .int 2, .int 42, .ref (gR h4 a0 0)]) (h' := h4) rfl ?_
          refine mX_to 1 (k' := 34) (ls' := [some (.ref a0), some (.int a1), some (.int a2)]) (st' := [.int 5, .ref (gR h4 a0 0), .int 2, .int 42, .ref (gR h4 a0 0)]) (h' := h4) rfl ?_
          refine mX_ck (k' := 35) (ls' := [some (.ref a0), some (.int a1), some (.int a2)]) (st' := [.int (gI h4 (gR h4 a0 0) (ix (5 : Int32))), .int 2, .int 42, .ref (gR h4 a0 0)]) (h' := h4) rfl ?_
          refine mX_to 3 (k' := 38) (ls' := [some (.ref a0), some (.int a1), some (.int a2)]) (st' := [.int a1, .int (42 + (2 * (gI h4 (gR h4 a0 0) (ix (5 : Int32))))), .ref (gR h4 a0 0)]) (h' := h4) rfl ?_
          refine mX_ck (k' := 39) (ls' := [some (.ref a0), some (.int a1), some (.int a2)]) (st' := []) (h' := (sI h4 (gR h4 a0 0) (ix (42 + (2 * (gI h4 (gR h4 a0 0) (ix (5 : Int32)))))) a1)) rfl ?_
          refine lt_gen (X := fun h6 : MH => mX (mE mtab d) KX11_said 39 [some (.ref a0), some (.int a1), some (.int a2)] [] h6) fun h6 => ?_
          refine mX_to 1 (k' := 40) (ls' := [some (.ref a0), some (.int a1), some (.int a2)]) (st' := [.ref a0]) (h' := h6) rfl ?_
          refine mX_ck (k' := 41) (ls' := [some (.ref a0), some (.int a1), some (.int a2)]) (st' := [.ref (gR h6 a0 0)]) (h' := h6) rfl ?_
          refine mX_to 3 (k' := 44) (ls' := [some (.ref a0), some (.int a1), some (.int a2)]) (st' := [.ref a0, .int 2, .int 42, .ref (gR h6 a0 0)]) (h' := h6) rfl ?_
          refine mX_ck (k' := 45) (ls' := [some (.ref a0), some (.int a1), some (.int a2)]) (st' := [.ref (gR h6 a0 0), .int 2, .int 42, .ref (gR h6 a0 0)]) (h' := h6) rfl ?_
          refine mX_to 1 (k' := 46) (ls' := [some (.ref a0), some (.int a1), some (.int a2)]) (st' := [.int 5, .ref (gR h6 a0 0), .int 2, .int 42, .ref (gR h6 a0 0)]) (h' := h6) rfl ?_
          refine mX_ck (k' := 47) (ls' := [some (.ref a0), some (.int a1), some (.int a2)]) (st' := [.int (gI h6 (gR h6 a0 0) (ix (5 : Int32))), .int 2, .int 42, .ref (gR h6 a0 0)]) (h' := h6) rfl ?_
          refine mX_to 5 (k' := 52) (ls' := [some (.ref a0), some (.int a1), some (.int a2)]) (st' := [.int a2, .int ((42 + (2 * (gI h6 (gR h6 a0 0) (ix (5 : Int32))))) + 1), .ref (gR h6 a0 0)]) (h' := h6) rfl ?_
          refine mX_ck (k' := 53) (ls' := [some (.ref a0), some (.int a1), some (.int a2)]) (st' := []) (h' := (sI h6 (gR h6 a0 0) (ix ((42 + (2 * (gI h6 (gR h6 a0 0) (ix (5 : Int32))))) + 1)) a2)) rfl ?_
          refine lt_gen (X := fun h7 : MH => mX (mE mtab d) KX11_said 53 [some (.ref a0), some (.int a1), some (.int a2)] [] h7) fun h7 => ?_
          refine mX_to 1 (k' := 54) (ls' := [some (.ref a0), some (.int a1), some (.int a2)]) (st' := [.ref a0]) (h' := h7) rfl ?_
          refine mX_ck (k' := 55) (ls' := [some (.ref a0), some (.int a1), some (.int a2)]) (st' := [.ref (gR h7 a0 0)]) (h' := h7) rfl ?_
          refine mX_to 2 (k' := 57) (ls' := [some (.ref a0), some (.int a1), some (.int a2)]) (st' := [.int 5, .ref (gR h7 a0 0), .int 5, .ref (gR h7 a0 0)]) (h' := h7) rfl ?_
          refine mX_ck (k' := 58) (ls' := [some (.ref a0), some (.int a1), some (.int a2)]) (st' := [.int (gI h7 (gR h7 a0 0) (ix (5 : Int32))), .int 5, .ref (gR h7 a0 0)]) (h' := h7) rfl ?_
          refine mX_to 2 (k' := 60) (ls' := [some (.ref a0), some (.int a1), some (.int a2)]) (st' := [.int ((gI h7 (gR h7 a0 0) (ix (5 : Int32))) + 1), .int 5, .ref (gR h7 a0 0)]) (h' := h7) rfl ?_
          refine mX_ck (k' := 61) (ls' := [some (.ref a0), some (.int a1), some (.int a2)]) (st' := []) (h' := (sI h7 (gR h7 a0 0) (ix (5 : Int32)) ((gI h7 (gR h7 a0 0) (ix (5 : Int32))) + 1))) rfl ?_
          refine lt_gen (X := fun h8 : MH => mX (mE mtab d) KX11_said 61 [some (.ref a0), some (.int a1), some (.int a2)] [] h8) fun h8 => ?_
          refine mX_to 1 (k' := 62) (ls' := [some (.ref a0), some (.int a1), some (.int a2)]) (st' := [.ref a0]) (h' := h8) rfl ?_
          refine mX_ck (k' := 63) (ls' := [some (.ref a0), some (.int a1), some (.int a2)]) (st' := [.ref (gR h8 a0 0)]) (h' := h8) rfl ?_
          refine mX_to 1 (k' := 64) (ls' := [some (.ref a0), some (.int a1), some (.int a2)]) (st' := [.int 5, .ref (gR h8 a0 0)]) (h' := h8) rfl ?_
          refine mX_ck (k' := 65) (ls' := [some (.ref a0), some (.int a1), some (.int a2)]) (st' := [.int (gI h8 (gR h8 a0 0) (ix (5 : Int32)))]) (h' := h8) rfl ?_
          exact mX_reti rfl
theorem D_X0_agrees_2 (d : Nat) (h : MH) (l0 : Nat) (l1 : Nat) (l2 : Int32) : mX (mE mtab d) KX0_agrees 2 [some (.ref l0), some (.ref l1), some (.int l2)] [] h = ck (kd h l0 = 1) ((if l2 < (gI h l0 8) then ck (kd h l0 = 1) (ck (kd h l0 = 1) (ck ((kd h (gR h l0 6) = 20 ∨ kd h (gR h l0 6) = 24) ∧ ib l2 (ln h (gR h l0 6))) (ck (kd h (gR h l0 0) = 10) (cI (mE mtab d 188 [.ref (gR h l0 0), .ref l1, .int (gI h (gR h l0 6) (ix l2))] h) (fun x2 h1 => ck (kd h1 l0 = 1) (ck ((kd h1 (gR h1 l0 7) = 20 ∨ kd h1 (gR h1 l0 7) = 24) ∧ ib l2 (ln h1 (gR h1 l0 7))) ((if x2 = (gI h1 (gR h1 l0 7) (ix l2)) then mX (mE mtab d) KX0_agrees 2 [some (.ref l0), some (.ref l1), some (.int (l2 + 1))] [] h1 else some (.int 0, h1))))))))) else some (.int 1, h))) := by
  refine mX_to 2 (k' := 4) (ls' := [some (.ref l0), some (.ref l1), some (.int l2)]) (st' := [.ref l0, .int l2]) (h' := h) rfl ?_
  refine mX_ck (k' := 5) (ls' := [some (.ref l0), some (.ref l1), some (.int l2)]) (st' := [.int (gI h l0 8), .int l2]) (h' := h) rfl ?_
  refine mX_br (t := 6) (f := 23) (ls' := [some (.ref l0), some (.ref l1), some (.int l2)]) (st' := []) (h' := h) rfl ?_ ?_
  · refine mX_to 1 (k' := 7) (ls' := [some (.ref l0), some (.ref l1), some (.int l2)]) (st' := [.ref l0]) (h' := h) rfl ?_
    refine mX_ck (k' := 8) (ls' := [some (.ref l0), some (.ref l1), some (.int l2)]) (st' := [.ref (gR h l0 0)]) (h' := h) rfl ?_
    refine mX_to 2 (k' := 10) (ls' := [some (.ref l0), some (.ref l1), some (.int l2)]) (st' := [.ref l0, .ref l1, .ref (gR h l0 0)]) (h' := h) rfl ?_
    refine mX_ck (k' := 11) (ls' := [some (.ref l0), some (.ref l1), some (.int l2)]) (st' := [.ref (gR h l0 6), .ref l1, .ref (gR h l0 0)]) (h' := h) rfl ?_
    refine mX_to 1 (k' := 12) (ls' := [some (.ref l0), some (.ref l1), some (.int l2)]) (st' := [.int l2, .ref (gR h l0 6), .ref l1, .ref (gR h l0 0)]) (h' := h) rfl ?_
    refine mX_ck (k' := 13) (ls' := [some (.ref l0), some (.ref l1), some (.int l2)]) (st' := [.int (gI h (gR h l0 6) (ix l2)), .ref l1, .ref (gR h l0 0)]) (h' := h) rfl ?_
    refine mX_ckc (m := mcl (mE mtab d 188 [.ref (gR h l0 0), .ref l1, .int (gI h (gR h l0 6) (ix l2))] h) 1 14 [some (.ref l0), some (.ref l1), some (.int l2)] []) rfl ?_
    refine mk_cI ?_
    intro x2 h1
    refine mX_to 1 (k' := 15) (ls' := [some (.ref l0), some (.ref l1), some (.int l2)]) (st' := [.ref l0, .int x2]) (h' := h1) rfl ?_
    refine mX_ck (k' := 16) (ls' := [some (.ref l0), some (.ref l1), some (.int l2)]) (st' := [.ref (gR h1 l0 7), .int x2]) (h' := h1) rfl ?_
    refine mX_to 1 (k' := 17) (ls' := [some (.ref l0), some (.ref l1), some (.int l2)]) (st' := [.int l2, .ref (gR h1 l0 7), .int x2]) (h' := h1) rfl ?_
    refine mX_ck (k' := 18) (ls' := [some (.ref l0), some (.ref l1), some (.int l2)]) (st' := [.int (gI h1 (gR h1 l0 7) (ix l2)), .int x2]) (h' := h1) rfl ?_
    refine mX_br (t := 21) (f := 19) (ls' := [some (.ref l0), some (.ref l1), some (.int l2)]) (st' := []) (h' := h1) rfl ?_ ?_
    · refine mX_to 2 (k' := 2) (ls' := [some (.ref l0), some (.ref l1), some (.int (l2 + 1))]) (st' := []) (h' := h1) rfl ?_
      rfl
    · refine mX_to 1 (k' := 20) (ls' := [some (.ref l0), some (.ref l1), some (.int l2)]) (st' := [.int 0]) (h' := h1) rfl ?_
      exact mX_retb (by decide) rfl
  · refine mX_to 1 (k' := 24) (ls' := [some (.ref l0), some (.ref l1), some (.int l2)]) (st' := [.int 1]) (h' := h) rfl ?_
    exact mX_retb (by decide) rfl
theorem D_X0_agrees (d : Nat) (h : MH) (a0 : Nat) (a1 : Nat) : mE mtab (d + 1) 314 [.ref a0, .ref a1] h = mX (mE mtab d) KX0_agrees 2 [some (.ref a0), some (.ref a1), some (.int 0)] [] h := by
  refine mE_eq (q := (yX0_agrees, cX0_agrees, 3, (some .boolean), KX0_agrees)) (C := KX0_agrees) (ls := [some (.ref a0), some (.ref a1), none]) rfl rfl rfl rfl ?_
  refine mX_to 2 (k' := 2) (ls' := [some (.ref a0), some (.ref a1), some (.int 0)]) (st' := []) (h' := h) rfl ?_
  rfl
theorem D_X10_whose_4 (d : Nat) (h : MH) (l0 : Nat) (l1 : Int32) (l2 : Int32) : mX (mE mtab d) KX10_whose 4 [some (.ref l0), some (.int l1), some (.int l2)] [] h = ck (kd h l0 = 11) (ck (kd h (gR h l0 0) = 1) ((if l2 < (gI h (gR h l0 0) 4) then ck (kd h l0 = 11) (ck (kd h l0 = 11) (ck (kd h (gR h l0 0) = 1) (ck (kd h (gR h (gR h l0 0) 3) = 23 ∧ ib l2 (ln h (gR h (gR h l0 0) 3))) (ck (kd h (gR h l0 0) = 1) (cI (mE mtab d 314 [.ref (gR h l0 0), .ref (gR h (gR h (gR h l0 0) 3) (ix l2))] h) (fun x2 h1 => (if x2 = 0 then mX (mE mtab d) KX10_whose 24 [some (.ref l0), some (.int l1), some (.int l2)] [] h1 else lt_ (l1 ||| (1 <<< (l2 &&& 31))) fun v3 => mX (mE mtab d) KX10_whose 24 [some (.ref l0), some (.int v3), some (.int l2)] [] h1))))))) else some (.int l1, h)))) := by
  refine mX_to 2 (k' := 6) (ls' := [some (.ref l0), some (.int l1), some (.int l2)]) (st' := [.ref l0, .int l2]) (h' := h) rfl ?_
  refine mX_ck (k' := 7) (ls' := [some (.ref l0), some (.int l1), some (.int l2)]) (st' := [.ref (gR h l0 0), .int l2]) (h' := h) rfl ?_
  refine mX_ck (k' := 8) (ls' := [some (.ref l0), some (.int l1), some (.int l2)]) (st' := [.int (gI h (gR h l0 0) 4), .int l2]) (h' := h) rfl ?_
  refine mX_br (t := 9) (f := 26) (ls' := [some (.ref l0), some (.int l1), some (.int l2)]) (st' := []) (h' := h) rfl ?_ ?_
  · refine mX_to 1 (k' := 10) (ls' := [some (.ref l0), some (.int l1), some (.int l2)]) (st' := [.ref l0]) (h' := h) rfl ?_
    refine mX_ck (k' := 11) (ls' := [some (.ref l0), some (.int l1), some (.int l2)]) (st' := [.ref (gR h l0 0)]) (h' := h) rfl ?_
    refine mX_to 1 (k' := 12) (ls' := [some (.ref l0), some (.int l1), some (.int l2)]) (st' := [.ref l0, .ref (gR h l0 0)]) (h' := h) rfl ?_
    refine mX_ck (k' := 13) (ls' := [some (.ref l0), some (.int l1), some (.int l2)]) (st' := [.ref (gR h l0 0), .ref (gR h l0 0)]) (h' := h) rfl ?_
    refine mX_ck (k' := 14) (ls' := [some (.ref l0), some (.int l1), some (.int l2)]) (st' := [.ref (gR h (gR h l0 0) 3), .ref (gR h l0 0)]) (h' := h) rfl ?_
    refine mX_to 1 (k' := 15) (ls' := [some (.ref l0), some (.int l1), some (.int l2)]) (st' := [.int l2, .ref (gR h (gR h l0 0) 3), .ref (gR h l0 0)]) (h' := h) rfl ?_
    refine mX_ck (k' := 16) (ls' := [some (.ref l0), some (.int l1), some (.int l2)]) (st' := [.ref (gR h (gR h (gR h l0 0) 3) (ix l2)), .ref (gR h l0 0)]) (h' := h) rfl ?_
    refine mX_ckc (m := mcl (mE mtab d 314 [.ref (gR h l0 0), .ref (gR h (gR h (gR h l0 0) 3) (ix l2))] h) 1 17 [some (.ref l0), some (.int l1), some (.int l2)] []) rfl ?_
    refine mk_cI ?_
    intro x2 h1
    refine mX_br (t := 24) (f := 18) (ls' := [some (.ref l0), some (.int l1), some (.int l2)]) (st' := []) (h' := h1) rfl ?_ ?_
    · rfl
    · refine mX_to 5 (k' := 23) (ls' := [some (.ref l0), some (.int l1), some (.int l2)]) (st' := [.int (l1 ||| (1 <<< (l2 &&& 31)))]) (h' := h1) rfl ?_
      refine lt_gen (X := fun v3 : Int32 => mX (mE mtab d) KX10_whose 23 [some (.ref l0), some (.int l1), some (.int l2)] [.int v3] h1) fun v3 => ?_
      refine mX_to 1 (k' := 24) (ls' := [some (.ref l0), some (.int v3), some (.int l2)]) (st' := []) (h' := h1) rfl ?_
      rfl
  · refine mX_to 1 (k' := 27) (ls' := [some (.ref l0), some (.int l1), some (.int l2)]) (st' := [.int l1]) (h' := h) rfl ?_
    exact mX_reti rfl
theorem D_X10_whose_24 (d : Nat) (h : MH) (l0 : Nat) (l1 : Int32) (l2 : Int32) : mX (mE mtab d) KX10_whose 24 [some (.ref l0), some (.int l1), some (.int l2)] [] h = mX (mE mtab d) KX10_whose 4 [some (.ref l0), some (.int l1), some (.int (l2 + 1))] [] h := by
  refine mX_to 2 (k' := 4) (ls' := [some (.ref l0), some (.int l1), some (.int (l2 + 1))]) (st' := []) (h' := h) rfl ?_
  rfl
theorem D_X10_whose (d : Nat) (h : MH) (a0 : Nat) : mE mtab (d + 1) 315 [.ref a0] h = mX (mE mtab d) KX10_whose 4 [some (.ref a0), some (.int 0), some (.int 0)] [] h := by
  refine mE_eq (q := (yX10_whose, cX10_whose, 3, (some .int), KX10_whose)) (C := KX10_whose) (ls := [some (.ref a0), none, none]) rfl rfl rfl rfl ?_
  refine mX_to 4 (k' := 4) (ls' := [some (.ref a0), some (.int 0), some (.int 0)]) (st' := []) (h' := h) rfl ?_
  rfl
theorem D_X11_whose_4 (d : Nat) (h : MH) (l0 : Nat) (l1 : Int32) (l2 : Int32) (o3 : Option Value) (o4 : Option Value) : mX (mE mtab d) KX11_whose 4 [some (.ref l0), some (.int l1), some (.int l2), o3, o4] [] h = ck (kd h l0 = 12) (ck ((kd h (gR h l0 0) = 20 ∨ kd h (gR h l0 0) = 24) ∧ ib (2 : Int32) (ln h (gR h l0 0))) ((if l2 < (gI h (gR h l0 0) (ix (2 : Int32))) then mX (mE mtab d) KX11_whose 14 [some (.ref l0), some (.int l1), some (.int l2), some (.int 1), some (.int 42)] [] h else some (.int l1, h)))) := by
  refine mX_to 2 (k' := 6) (ls' := [some (.ref l0), some (.int l1), some (.int l2), o3, o4]) (st' := [.ref l0, .int l2]) (h' := h) rfl ?_
  refine mX_ck (k' := 7) (ls' := [some (.ref l0), some (.int l1), some (.int l2), o3, o4]) (st' := [.ref (gR h l0 0), .int l2]) (h' := h) rfl ?_
  refine mX_to 1 (k' := 8) (ls' := [some (.ref l0), some (.int l1), some (.int l2), o3, o4]) (st' := [.int 2, .ref (gR h l0 0), .int l2]) (h' := h) rfl ?_
  refine mX_ck (k' := 9) (ls' := [some (.ref l0), some (.int l1), some (.int l2), o3, o4]) (st' := [.int (gI h (gR h l0 0) (ix (2 : Int32))), .int l2]) (h' := h) rfl ?_
  refine mX_br (t := 10) (f := 58) (ls' := [some (.ref l0), some (.int l1), some (.int l2), o3, o4]) (st' := []) (h' := h) rfl ?_ ?_
  · refine mX_to 4 (k' := 14) (ls' := [some (.ref l0), some (.int l1), some (.int l2), some (.int 1), some (.int 42)]) (st' := []) (h' := h) rfl ?_
    rfl
  · refine mX_to 1 (k' := 59) (ls' := [some (.ref l0), some (.int l1), some (.int l2), o3, o4]) (st' := [.int l1]) (h' := h) rfl ?_
    exact mX_reti rfl
theorem D_X11_whose_14 (d : Nat) (h : MH) (l0 : Nat) (l1 : Int32) (l2 : Int32) (l3 : Int32) (l4 : Int32) : mX (mE mtab d) KX11_whose 14 [some (.ref l0), some (.int l1), some (.int l2), some (.int l3), some (.int l4)] [] h = ck (kd h l0 = 12) (ck ((kd h (gR h l0 0) = 20 ∨ kd h (gR h l0 0) = 24) ∧ ib (5 : Int32) (ln h (gR h l0 0))) ((if l4 < (42 + (2 * (gI h (gR h l0 0) (ix (5 : Int32))))) then (if l3 = 0 then mX (mE mtab d) KX11_whose 42 [some (.ref l0), some (.int l1), some (.int l2), some (.int l3), some (.int l4)] [] h else ck (kd h l0 = 12) (ck ((kd h (gR h l0 0) = 20 ∨ kd h (gR h l0 0) = 24) ∧ ib l4 (ln h (gR h l0 0))) (ck (kd h l0 = 12) (cI (mE mtab d 196 [.ref l0, .int l2, .int (gI h (gR h l0 0) (ix l4))] h) (fun x2 h1 => ck (kd h1 l0 = 12) (ck ((kd h1 (gR h1 l0 0) = 20 ∨ kd h1 (gR h1 l0 0) = 24) ∧ ib (l4 + 1) (ln h1 (gR h1 l0 0))) ((if x2 = (gI h1 (gR h1 l0 0) (ix (l4 + 1))) then mX (mE mtab d) KX11_whose 43 [some (.ref l0), some (.int l1), some (.int l2), some (.int l3), some (.int l4)] [.int 1] h1 else mX (mE mtab d) KX11_whose 42 [some (.ref l0), some (.int l1), some (.int l2), some (.int l3), some (.int l4)] [] h1)))))))) else (if l3 = 0 then mX (mE mtab d) KX11_whose 54 [some (.ref l0), some (.int l1), some (.int l2), some (.int l3), some (.int l4)] [.int 0, .int l1] h else mX (mE mtab d) KX11_whose 54 [some (.ref l0), some (.int l1), some (.int l2), some (.int l3), some (.int l4)] [.int (1 <<< (l2 &&& 31)), .int l1] h)))) := by
  refine mX_to 4 (k' := 18) (ls' := [some (.ref l0), some (.int l1), some (.int l2), some (.int l3), some (.int l4)]) (st' := [.ref l0, .int 2, .int 42, .int l4]) (h' := h) rfl ?_
  refine mX_ck (k' := 19) (ls' := [some (.ref l0), some (.int l1), some (.int l2), some (.int l3), some (.int l4)]) (st' := [.ref (gR h l0 0), .int 2, .int 42, .int l4]) (h' := h) rfl ?_
  refine mX_to 1 (k' := 20) (ls' := [some (.ref l0), some (.int l1), some (.int l2), some (.int l3), some (.int l4)]) (st' := [.int 5, .ref (gR h l0 0), .int 2, .int 42, .int l4]) (h' := h) rfl ?_
  refine mX_ck (k' := 21) (ls' := [some (.ref l0), some (.int l1), some (.int l2), some (.int l3), some (.int l4)]) (st' := [.int (gI h (gR h l0 0) (ix (5 : Int32))), .int 2, .int 42, .int l4]) (h' := h) rfl ?_
  refine mX_to 2 (k' := 23) (ls' := [some (.ref l0), some (.int l1), some (.int l2), some (.int l3), some (.int l4)]) (st' := [.int (42 + (2 * (gI h (gR h l0 0) (ix (5 : Int32))))), .int l4]) (h' := h) rfl ?_
  refine mX_br (t := 24) (f := 46) (ls' := [some (.ref l0), some (.int l1), some (.int l2), some (.int l3), some (.int l4)]) (st' := []) (h' := h) rfl ?_ ?_
  · refine mX_to 1 (k' := 25) (ls' := [some (.ref l0), some (.int l1), some (.int l2), some (.int l3), some (.int l4)]) (st' := [.int l3]) (h' := h) rfl ?_
    refine mX_br (t := 42) (f := 26) (ls' := [some (.ref l0), some (.int l1), some (.int l2), some (.int l3), some (.int l4)]) (st' := []) (h' := h) rfl ?_ ?_
    · rfl
    · refine mX_to 3 (k' := 29) (ls' := [some (.ref l0), some (.int l1), some (.int l2), some (.int l3), some (.int l4)]) (st' := [.ref l0, .int l2, .ref l0]) (h' := h) rfl ?_
      refine mX_ck (k' := 30) (ls' := [some (.ref l0), some (.int l1), some (.int l2), some (.int l3), some (.int l4)]) (st' := [.ref (gR h l0 0), .int l2, .ref l0]) (h' := h) rfl ?_
      refine mX_to 1 (k' := 31) (ls' := [some (.ref l0), some (.int l1), some (.int l2), some (.int l3), some (.int l4)]) (st' := [.int l4, .ref (gR h l0 0), .int l2, .ref l0]) (h' := h) rfl ?_
      refine mX_ck (k' := 32) (ls' := [some (.ref l0), some (.int l1), some (.int l2), some (.int l3), some (.int l4)]) (st' := [.int (gI h (gR h l0 0) (ix l4)), .int l2, .ref l0]) (h' := h) rfl ?_
      refine mX_ckc (m := mcl (mE mtab d 196 [.ref l0, .int l2, .int (gI h (gR h l0 0) (ix l4))] h) 1 33 [some (.ref l0), some (.int l1), some (.int l2), some (.int l3), some (.int l4)] []) rfl ?_
      refine mk_cI ?_
      intro x2 h1
      refine mX_to 1 (k' := 34) (ls' := [some (.ref l0), some (.int l1), some (.int l2), some (.int l3), some (.int l4)]) (st' := [.ref l0, .int x2]) (h' := h1) rfl ?_
      refine mX_ck (k' := 35) (ls' := [some (.ref l0), some (.int l1), some (.int l2), some (.int l3), some (.int l4)]) (st' := [.ref (gR h1 l0 0), .int x2]) (h' := h1) rfl ?_
      refine mX_to 3 (k' := 38) (ls' := [some (.ref l0), some (.int l1), some (.int l2), some (.int l3), some (.int l4)]) (st' := [.int (l4 + 1), .ref (gR h1 l0 0), .int x2]) (h' := h1) rfl ?_
      refine mX_ck (k' := 39) (ls' := [some (.ref l0), some (.int l1), some (.int l2), some (.int l3), some (.int l4)]) (st' := [.int (gI h1 (gR h1 l0 0) (ix (l4 + 1))), .int x2]) (h' := h1) rfl ?_
      refine mX_br (t := 40) (f := 42) (ls' := [some (.ref l0), some (.int l1), some (.int l2), some (.int l3), some (.int l4)]) (st' := []) (h' := h1) rfl ?_ ?_
      · refine mX_to 2 (k' := 43) (ls' := [some (.ref l0), some (.int l1), some (.int l2), some (.int l3), some (.int l4)]) (st' := [.int 1]) (h' := h1) rfl ?_
        rfl
      · rfl
  · refine mX_to 2 (k' := 48) (ls' := [some (.ref l0), some (.int l1), some (.int l2), some (.int l3), some (.int l4)]) (st' := [.int l3, .int l1]) (h' := h) rfl ?_
    refine mX_br (t := 53) (f := 49) (ls' := [some (.ref l0), some (.int l1), some (.int l2), some (.int l3), some (.int l4)]) (st' := [.int l1]) (h' := h) rfl ?_ ?_
    · refine mX_to 1 (k' := 54) (ls' := [some (.ref l0), some (.int l1), some (.int l2), some (.int l3), some (.int l4)]) (st' := [.int 0, .int l1]) (h' := h) rfl ?_
      rfl
    · refine mX_to 4 (k' := 54) (ls' := [some (.ref l0), some (.int l1), some (.int l2), some (.int l3), some (.int l4)]) (st' := [.int (1 <<< (l2 &&& 31)), .int l1]) (h' := h) rfl ?_
      rfl
theorem D_X11_whose_42 (d : Nat) (h : MH) (l0 : Nat) (l1 : Int32) (l2 : Int32) (l3 : Int32) (l4 : Int32) : mX (mE mtab d) KX11_whose 42 [some (.ref l0), some (.int l1), some (.int l2), some (.int l3), some (.int l4)] [] h = mX (mE mtab d) KX11_whose 43 [some (.ref l0), some (.int l1), some (.int l2), some (.int l3), some (.int l4)] [.int 0] h := by
  refine mX_to 1 (k' := 43) (ls' := [some (.ref l0), some (.int l1), some (.int l2), some (.int l3), some (.int l4)]) (st' := [.int 0]) (h' := h) rfl ?_
  rfl
theorem D_X11_whose_43 (d : Nat) (h : MH) (l0 : Nat) (l1 : Int32) (l2 : Int32) (l3 : Int32) (l4 : Int32) (s0 : Int32) : mX (mE mtab d) KX11_whose 43 [some (.ref l0), some (.int l1), some (.int l2), some (.int l3), some (.int l4)] [.int s0] h = mX (mE mtab d) KX11_whose 14 [some (.ref l0), some (.int l1), some (.int l2), some (.int s0), some (.int (l4 + 2))] [] h := by
  refine mX_to 3 (k' := 14) (ls' := [some (.ref l0), some (.int l1), some (.int l2), some (.int s0), some (.int (l4 + 2))]) (st' := []) (h' := h) rfl ?_
  rfl
theorem D_X11_whose_54 (d : Nat) (h : MH) (l0 : Nat) (l1 : Int32) (l2 : Int32) (l3 : Int32) (l4 : Int32) (s0 : Int32) (s1 : Int32) : mX (mE mtab d) KX11_whose 54 [some (.ref l0), some (.int l1), some (.int l2), some (.int l3), some (.int l4)] [.int s0, .int s1] h = lt_ (s1 ||| s0) fun v4 => mX (mE mtab d) KX11_whose 4 [some (.ref l0), some (.int v4), some (.int (l2 + 1)), some (.int l3), some (.int l4)] [] h := by
  refine mX_to 1 (k' := 55) (ls' := [some (.ref l0), some (.int l1), some (.int l2), some (.int l3), some (.int l4)]) (st' := [.int (s1 ||| s0)]) (h' := h) rfl ?_
  refine lt_gen (X := fun v4 : Int32 => mX (mE mtab d) KX11_whose 55 [some (.ref l0), some (.int l1), some (.int l2), some (.int l3), some (.int l4)] [.int v4] h) fun v4 => ?_
  refine mX_to 3 (k' := 4) (ls' := [some (.ref l0), some (.int v4), some (.int (l2 + 1)), some (.int l3), some (.int l4)]) (st' := []) (h' := h) rfl ?_
  rfl
theorem D_X11_whose (d : Nat) (h : MH) (a0 : Nat) : mE mtab (d + 1) 316 [.ref a0] h = mX (mE mtab d) KX11_whose 4 [some (.ref a0), some (.int 0), some (.int 0), none, none] [] h := by
  refine mE_eq (q := (yX11_whose, cX11_whose, 5, (some .int), KX11_whose)) (C := KX11_whose) (ls := [some (.ref a0), none, none, none, none]) rfl rfl rfl rfl ?_
  refine mX_to 4 (k' := 4) (ls' := [some (.ref a0), some (.int 0), some (.int 0), none, none]) (st' := []) (h' := h) rfl ?_
  rfl
theorem D_X10_free_23 (d : Nat) (h : MH) (l0 : Nat) (l1 : Int32) (s0 : Int32) : mX (mE mtab d) KX10_free 23 [some (.ref l0), some (.int l1), none] [.int s0] h = ck (kd h l0 = 11) (ck (kd h l0 = 11) (ck (kd h (gR h l0 0) = 1) (ck (kd h (gR h l0 2) = 10) (cV (mE mtab d 225 [.ref (gR h l0 2), .ref (gR h (gR h l0 0) 0)] h) (fun h6 => ck (kd h6 l0 = 11) (ck (kd h6 (gR h6 l0 2) = 10) (cI (mE mtab d 147 [.ref (gR h6 l0 2), .int l1, .int 1] h6) (fun x8 h7 => (if x8 = 0 then some (.int s0, h7) else some (.int (s0 + 2), h7)))))))))) := by
  refine mX_to 2 (k' := 25) (ls' := [some (.ref l0), some (.int l1), some (.int s0)]) (st' := [.ref l0]) (h' := h) rfl ?_
  refine mX_ck (k' := 26) (ls' := [some (.ref l0), some (.int l1), some (.int s0)]) (st' := [.ref (gR h l0 2)]) (h' := h) rfl ?_
  refine mX_to 1 (k' := 27) (ls' := [some (.ref l0), some (.int l1), some (.int s0)]) (st' := [.ref l0, .ref (gR h l0 2)]) (h' := h) rfl ?_
  refine mX_ck (k' := 28) (ls' := [some (.ref l0), some (.int l1), some (.int s0)]) (st' := [.ref (gR h l0 0), .ref (gR h l0 2)]) (h' := h) rfl ?_
  refine mX_ck (k' := 29) (ls' := [some (.ref l0), some (.int l1), some (.int s0)]) (st' := [.ref (gR h (gR h l0 0) 0), .ref (gR h l0 2)]) (h' := h) rfl ?_
  refine mX_ckc (m := mcl (mE mtab d 225 [.ref (gR h l0 2), .ref (gR h (gR h l0 0) 0)] h) 0 30 [some (.ref l0), some (.int l1), some (.int s0)] []) rfl ?_
  refine mk_cV ?_
  intro h6
  refine mX_to 1 (k' := 31) (ls' := [some (.ref l0), some (.int l1), some (.int s0)]) (st' := [.ref l0]) (h' := h6) rfl ?_
  refine mX_ck (k' := 32) (ls' := [some (.ref l0), some (.int l1), some (.int s0)]) (st' := [.ref (gR h6 l0 2)]) (h' := h6) rfl ?_
  refine mX_to 2 (k' := 34) (ls' := [some (.ref l0), some (.int l1), some (.int s0)]) (st' := [.int 1, .int l1, .ref (gR h6 l0 2)]) (h' := h6) rfl ?_
  refine mX_ckc (m := mcl (mE mtab d 147 [.ref (gR h6 l0 2), .int l1, .int 1] h6) 1 35 [some (.ref l0), some (.int l1), some (.int s0)] []) rfl ?_
  refine mk_cI ?_
  intro x8 h7
  refine mX_br (t := 40) (f := 36) (ls' := [some (.ref l0), some (.int l1), some (.int s0)]) (st' := []) (h' := h7) rfl ?_ ?_
  · refine mX_to 1 (k' := 41) (ls' := [some (.ref l0), some (.int l1), some (.int s0)]) (st' := [.int s0]) (h' := h7) rfl ?_
    exact mX_reti rfl
  · refine mX_to 4 (k' := 41) (ls' := [some (.ref l0), some (.int l1), some (.int s0)]) (st' := [.int (s0 + 2)]) (h' := h7) rfl ?_
    exact mX_reti rfl
theorem D_X10_free (d : Nat) (h : MH) (a0 : Nat) (a1 : Int32) : mE mtab (d + 1) 317 [.ref a0, .int a1] h = ck (kd h a0 = 11) (ck (kd h (gR h a0 0) = 1) (ck (kd h (gR h (gR h a0 0) 0) = 10) (cI (mE mtab d 17 [.ref (gR h (gR h a0 0) 0), .int a1] h) (fun x2 h1 => (if x2 = 0 then some (.int (-1), h1) else ck (kd h1 a0 = 11) (ck (kd h1 a0 = 11) (ck (kd h1 (gR h1 a0 0) = 1) (ck (kd h1 (gR h1 a0 2) = 10) (cV (mE mtab d 225 [.ref (gR h1 a0 2), .ref (gR h1 (gR h1 a0 0) 0)] h1) (fun h3 => ck (kd h3 a0 = 11) (ck (kd h3 (gR h3 a0 2) = 10) (cI (mE mtab d 147 [.ref (gR h3 a0 2), .int a1, .int 0] h3) (fun x5 h4 => (if x5 = 0 then mX (mE mtab d) KX10_free 23 [some (.ref a0), some (.int a1), none] [.int 0] h4 else mX (mE mtab d) KX10_free 23 [some (.ref a0), some (.int a1), none] [.int 1] h4)))))))))))))) := by
  refine mE_eq (q := (yX10_free, cX10_free, 3, (some .int), KX10_free)) (C := KX10_free) (ls := [some (.ref a0), some (.int a1), none]) rfl rfl rfl rfl ?_
  refine mX_to 1 (k' := 1) (ls' := [some (.ref a0), some (.int a1), none]) (st' := [.ref a0]) (h' := h) rfl ?_
  refine mX_ck (k' := 2) (ls' := [some (.ref a0), some (.int a1), none]) (st' := [.ref (gR h a0 0)]) (h' := h) rfl ?_
  refine mX_ck (k' := 3) (ls' := [some (.ref a0), some (.int a1), none]) (st' := [.ref (gR h (gR h a0 0) 0)]) (h' := h) rfl ?_
  refine mX_to 1 (k' := 4) (ls' := [some (.ref a0), some (.int a1), none]) (st' := [.int a1, .ref (gR h (gR h a0 0) 0)]) (h' := h) rfl ?_
  refine mX_ckc (m := mcl (mE mtab d 17 [.ref (gR h (gR h a0 0) 0), .int a1] h) 1 5 [some (.ref a0), some (.int a1), none] []) rfl ?_
  refine mk_cI ?_
  intro x2 h1
  refine mX_br (t := 6) (f := 8) (ls' := [some (.ref a0), some (.int a1), none]) (st' := []) (h' := h1) rfl ?_ ?_
  · refine mX_to 1 (k' := 7) (ls' := [some (.ref a0), some (.int a1), none]) (st' := [.int (-1)]) (h' := h1) rfl ?_
    exact mX_reti rfl
  · refine mX_to 1 (k' := 9) (ls' := [some (.ref a0), some (.int a1), none]) (st' := [.ref a0]) (h' := h1) rfl ?_
    refine mX_ck (k' := 10) (ls' := [some (.ref a0), some (.int a1), none]) (st' := [.ref (gR h1 a0 2)]) (h' := h1) rfl ?_
    refine mX_to 1 (k' := 11) (ls' := [some (.ref a0), some (.int a1), none]) (st' := [.ref a0, .ref (gR h1 a0 2)]) (h' := h1) rfl ?_
    refine mX_ck (k' := 12) (ls' := [some (.ref a0), some (.int a1), none]) (st' := [.ref (gR h1 a0 0), .ref (gR h1 a0 2)]) (h' := h1) rfl ?_
    refine mX_ck (k' := 13) (ls' := [some (.ref a0), some (.int a1), none]) (st' := [.ref (gR h1 (gR h1 a0 0) 0), .ref (gR h1 a0 2)]) (h' := h1) rfl ?_
    refine mX_ckc (m := mcl (mE mtab d 225 [.ref (gR h1 a0 2), .ref (gR h1 (gR h1 a0 0) 0)] h1) 0 14 [some (.ref a0), some (.int a1), none] []) rfl ?_
    refine mk_cV ?_
    intro h3
    refine mX_to 1 (k' := 15) (ls' := [some (.ref a0), some (.int a1), none]) (st' := [.ref a0]) (h' := h3) rfl ?_
    refine mX_ck (k' := 16) (ls' := [some (.ref a0), some (.int a1), none]) (st' := [.ref (gR h3 a0 2)]) (h' := h3) rfl ?_
    refine mX_to 2 (k' := 18) (ls' := [some (.ref a0), some (.int a1), none]) (st' := [.int 0, .int a1, .ref (gR h3 a0 2)]) (h' := h3) rfl ?_
    refine mX_ckc (m := mcl (mE mtab d 147 [.ref (gR h3 a0 2), .int a1, .int 0] h3) 1 19 [some (.ref a0), some (.int a1), none] []) rfl ?_
    refine mk_cI ?_
    intro x5 h4
    refine mX_br (t := 22) (f := 20) (ls' := [some (.ref a0), some (.int a1), none]) (st' := []) (h' := h4) rfl ?_ ?_
    · refine mX_to 1 (k' := 23) (ls' := [some (.ref a0), some (.int a1), none]) (st' := [.int 0]) (h' := h4) rfl ?_
      rfl
    · refine mX_to 2 (k' := 23) (ls' := [some (.ref a0), some (.int a1), none]) (st' := [.int 1]) (h' := h4) rfl ?_
      rfl
theorem D_X11_free_12 (d : Nat) (h : MH) (l0 : Nat) (l1 : Int32) (s0 : Int32) : mX (mE mtab d) KX11_free 12 [some (.ref l0), some (.int l1)] [.int s0] h = ck (kd h l0 = 12) (cI (mE mtab d 174 [.ref l0, .int l1, .int 1] h) (fun x6 h5 => (if x6 = 0 then some (.int (s0 + 0), h5) else some (.int (s0 + 2), h5)))) := by
  refine mX_to 3 (k' := 15) (ls' := [some (.ref l0), some (.int l1)]) (st' := [.int 1, .int l1, .ref l0, .int s0]) (h' := h) rfl ?_
  refine mX_ckc (m := mcl (mE mtab d 174 [.ref l0, .int l1, .int 1] h) 1 16 [some (.ref l0), some (.int l1)] [.int s0]) rfl ?_
  refine mk_cI ?_
  intro x6 h5
  refine mX_br (t := 19) (f := 17) (ls' := [some (.ref l0), some (.int l1)]) (st' := [.int s0]) (h' := h5) rfl ?_ ?_
  · refine mX_to 3 (k' := 23) (ls' := [some (.ref l0), some (.int l1)]) (st' := [.int (s0 + 0)]) (h' := h5) rfl ?_
    exact mX_reti rfl
  · refine mX_to 4 (k' := 23) (ls' := [some (.ref l0), some (.int l1)]) (st' := [.int (s0 + 2)]) (h' := h5) rfl ?_
    exact mX_reti rfl
theorem D_X11_free (d : Nat) (h : MH) (a0 : Nat) (a1 : Int32) : mE mtab (d + 1) 318 [.ref a0, .int a1] h = ck (kd h a0 = 12) (cI (mE mtab d 20 [.ref a0, .int a1] h) (fun x2 h1 => (if x2 = 0 then some (.int (-1), h1) else ck (kd h1 a0 = 12) (cI (mE mtab d 174 [.ref a0, .int a1, .int 0] h1) (fun x4 h3 => (if x4 = 0 then mX (mE mtab d) KX11_free 12 [some (.ref a0), some (.int a1)] [.int 0] h3 else mX (mE mtab d) KX11_free 12 [some (.ref a0), some (.int a1)] [.int 1] h3)))))) := by
  refine mE_eq (q := (yX11_free, cX11_free, 2, (some .int), KX11_free)) (C := KX11_free) (ls := [some (.ref a0), some (.int a1)]) rfl rfl rfl rfl ?_
  refine mX_to 2 (k' := 2) (ls' := [some (.ref a0), some (.int a1)]) (st' := [.int a1, .ref a0]) (h' := h) rfl ?_
  refine mX_ckc (m := mcl (mE mtab d 20 [.ref a0, .int a1] h) 1 3 [some (.ref a0), some (.int a1)] []) rfl ?_
  refine mk_cI ?_
  intro x2 h1
  refine mX_br (t := 22) (f := 4) (ls' := [some (.ref a0), some (.int a1)]) (st' := []) (h' := h1) rfl ?_ ?_
  · refine mX_to 1 (k' := 23) (ls' := [some (.ref a0), some (.int a1)]) (st' := [.int (-1)]) (h' := h1) rfl ?_
    exact mX_reti rfl
  · refine mX_to 3 (k' := 7) (ls' := [some (.ref a0), some (.int a1)]) (st' := [.int 0, .int a1, .ref a0]) (h' := h1) rfl ?_
    refine mX_ckc (m := mcl (mE mtab d 174 [.ref a0, .int a1, .int 0] h1) 1 8 [some (.ref a0), some (.int a1)] []) rfl ?_
    refine mk_cI ?_
    intro x4 h3
    refine mX_br (t := 11) (f := 9) (ls' := [some (.ref a0), some (.int a1)]) (st' := []) (h' := h3) rfl ?_ ?_
    · refine mX_to 1 (k' := 12) (ls' := [some (.ref a0), some (.int a1)]) (st' := [.int 0]) (h' := h3) rfl ?_
      rfl
    · refine mX_to 2 (k' := 12) (ls' := [some (.ref a0), some (.int a1)]) (st' := [.int 1]) (h' := h3) rfl ?_
      rfl
theorem D_X10_lone_4 (d : Nat) (h : MH) (l0 : Nat) (l1 : Int32) (l2 : Int32) (o3 : Option Value) : mX (mE mtab d) KX10_lone 4 [some (.ref l0), some (.int l1), some (.int l2), o3] [] h = (if l2 < 9 then ck (kd h l0 = 11) (ck (kd h (gR h l0 0) = 1) (ck (kd h (gR h (gR h l0 0) 0) = 10) (cI (mE mtab d 215 [.ref (gR h (gR h l0 0) 0), .int l2] h) (fun x2 h1 => cI (mE mtab d 259 [.int x2] h1) (fun x4 h3 => (if x4 = 1 then lt_ (l1 ||| x2) fun v5 => mX (mE mtab d) KX10_lone 21 [some (.ref l0), some (.int v5), some (.int l2), some (.int x2)] [] h3 else mX (mE mtab d) KX10_lone 21 [some (.ref l0), some (.int l1), some (.int l2), some (.int x2)] [] h3)))))) else some (.int l1, h)) := by
  refine mX_to 2 (k' := 6) (ls' := [some (.ref l0), some (.int l1), some (.int l2), o3]) (st' := [.int 9, .int l2]) (h' := h) rfl ?_
  refine mX_br (t := 7) (f := 23) (ls' := [some (.ref l0), some (.int l1), some (.int l2), o3]) (st' := []) (h' := h) rfl ?_ ?_
  · refine mX_to 1 (k' := 8) (ls' := [some (.ref l0), some (.int l1), some (.int l2), o3]) (st' := [.ref l0]) (h' := h) rfl ?_
    refine mX_ck (k' := 9) (ls' := [some (.ref l0), some (.int l1), some (.int l2), o3]) (st' := [.ref (gR h l0 0)]) (h' := h) rfl ?_
    refine mX_ck (k' := 10) (ls' := [some (.ref l0), some (.int l1), some (.int l2), o3]) (st' := [.ref (gR h (gR h l0 0) 0)]) (h' := h) rfl ?_
    refine mX_to 1 (k' := 11) (ls' := [some (.ref l0), some (.int l1), some (.int l2), o3]) (st' := [.int l2, .ref (gR h (gR h l0 0) 0)]) (h' := h) rfl ?_
    refine mX_ckc (m := mcl (mE mtab d 215 [.ref (gR h (gR h l0 0) 0), .int l2] h) 1 12 [some (.ref l0), some (.int l1), some (.int l2), o3] []) rfl ?_
    refine mk_cI ?_
    intro x2 h1
    refine mX_to 2 (k' := 14) (ls' := [some (.ref l0), some (.int l1), some (.int l2), some (.int x2)]) (st' := [.int x2]) (h' := h1) rfl ?_
    refine mX_cI (o := mE mtab d 259 [.int x2] h1) (k' := 15) (ls' := [some (.ref l0), some (.int l1), some (.int l2), some (.int x2)]) (st' := []) rfl ?_
    intro x4 h3
    refine mX_to 1 (k' := 16) (ls' := [some (.ref l0), some (.int l1), some (.int l2), some (.int x2)]) (st' := [.int 1, .int x4]) (h' := h3) rfl ?_
    refine mX_br (t := 17) (f := 21) (ls' := [some (.ref l0), some (.int l1), some (.int l2), some (.int x2)]) (st' := []) (h' := h3) rfl ?_ ?_
    · refine mX_to 3 (k' := 20) (ls' := [some (.ref l0), some (.int l1), some (.int l2), some (.int x2)]) (st' := [.int (l1 ||| x2)]) (h' := h3) rfl ?_
      refine lt_gen (X := fun v5 : Int32 => mX (mE mtab d) KX10_lone 20 [some (.ref l0), some (.int l1), some (.int l2), some (.int x2)] [.int v5] h3) fun v5 => ?_
      refine mX_to 1 (k' := 21) (ls' := [some (.ref l0), some (.int v5), some (.int l2), some (.int x2)]) (st' := []) (h' := h3) rfl ?_
      rfl
    · rfl
  · refine mX_to 1 (k' := 24) (ls' := [some (.ref l0), some (.int l1), some (.int l2), o3]) (st' := [.int l1]) (h' := h) rfl ?_
    exact mX_reti rfl
theorem D_X10_lone_21 (d : Nat) (h : MH) (l0 : Nat) (l1 : Int32) (l2 : Int32) (l3 : Int32) : mX (mE mtab d) KX10_lone 21 [some (.ref l0), some (.int l1), some (.int l2), some (.int l3)] [] h = mX (mE mtab d) KX10_lone 4 [some (.ref l0), some (.int l1), some (.int (l2 + 1)), some (.int l3)] [] h := by
  refine mX_to 2 (k' := 4) (ls' := [some (.ref l0), some (.int l1), some (.int (l2 + 1)), some (.int l3)]) (st' := []) (h' := h) rfl ?_
  rfl
theorem D_X10_lone (d : Nat) (h : MH) (a0 : Nat) : mE mtab (d + 1) 319 [.ref a0] h = mX (mE mtab d) KX10_lone 4 [some (.ref a0), some (.int 0), some (.int 0), none] [] h := by
  refine mE_eq (q := (yX10_lone, cX10_lone, 4, (some .int), KX10_lone)) (C := KX10_lone) (ls := [some (.ref a0), none, none, none]) rfl rfl rfl rfl ?_
  refine mX_to 4 (k' := 4) (ls' := [some (.ref a0), some (.int 0), some (.int 0), none]) (st' := []) (h' := h) rfl ?_
  rfl
theorem D_X11_lone_4 (d : Nat) (h : MH) (l0 : Nat) (l1 : Int32) (l2 : Int32) : mX (mE mtab d) KX11_lone 4 [some (.ref l0), some (.int l1), some (.int l2)] [] h = ck (kd h l0 = 12) (ck ((kd h (gR h l0 0) = 20 ∨ kd h (gR h l0 0) = 24) ∧ ib (0 : Int32) (ln h (gR h l0 0))) ((if l2 < (gI h (gR h l0 0) (ix (0 : Int32))) then ck (kd h l0 = 12) (ck ((kd h (gR h l0 0) = 20 ∨ kd h (gR h l0 0) = 24) ∧ ib (9 + l2) (ln h (gR h l0 0))) (ck (kd h l0 = 12) (cI (mE mtab d 161 [.ref l0, .int (gI h (gR h l0 0) (ix (9 + l2)))] h) (fun x2 h1 => cI (mE mtab d 268 [.int x2] h1) (fun x4 h3 => (if x4 = 1 then mX (mE mtab d) KX11_lone 27 [some (.ref l0), some (.int l1), some (.int l2)] [.int (1 <<< (l2 &&& 31)), .int l1] h3 else mX (mE mtab d) KX11_lone 27 [some (.ref l0), some (.int l1), some (.int l2)] [.int 0, .int l1] h3)))))) else some (.int l1, h)))) := by
  refine mX_to 2 (k' := 6) (ls' := [some (.ref l0), some (.int l1), some (.int l2)]) (st' := [.ref l0, .int l2]) (h' := h) rfl ?_
  refine mX_ck (k' := 7) (ls' := [some (.ref l0), some (.int l1), some (.int l2)]) (st' := [.ref (gR h l0 0), .int l2]) (h' := h) rfl ?_
  refine mX_to 1 (k' := 8) (ls' := [some (.ref l0), some (.int l1), some (.int l2)]) (st' := [.int 0, .ref (gR h l0 0), .int l2]) (h' := h) rfl ?_
  refine mX_ck (k' := 9) (ls' := [some (.ref l0), some (.int l1), some (.int l2)]) (st' := [.int (gI h (gR h l0 0) (ix (0 : Int32))), .int l2]) (h' := h) rfl ?_
  refine mX_br (t := 10) (f := 31) (ls' := [some (.ref l0), some (.int l1), some (.int l2)]) (st' := []) (h' := h) rfl ?_ ?_
  · refine mX_to 3 (k' := 13) (ls' := [some (.ref l0), some (.int l1), some (.int l2)]) (st' := [.ref l0, .ref l0, .int l1]) (h' := h) rfl ?_
    refine mX_ck (k' := 14) (ls' := [some (.ref l0), some (.int l1), some (.int l2)]) (st' := [.ref (gR h l0 0), .ref l0, .int l1]) (h' := h) rfl ?_
    refine mX_to 3 (k' := 17) (ls' := [some (.ref l0), some (.int l1), some (.int l2)]) (st' := [.int (9 + l2), .ref (gR h l0 0), .ref l0, .int l1]) (h' := h) rfl ?_
    refine mX_ck (k' := 18) (ls' := [some (.ref l0), some (.int l1), some (.int l2)]) (st' := [.int (gI h (gR h l0 0) (ix (9 + l2))), .ref l0, .int l1]) (h' := h) rfl ?_
    refine mX_ckc (m := mcl (mE mtab d 161 [.ref l0, .int (gI h (gR h l0 0) (ix (9 + l2)))] h) 1 19 [some (.ref l0), some (.int l1), some (.int l2)] [.int l1]) rfl ?_
    refine mk_cI ?_
    intro x2 h1
    refine mX_cI (o := mE mtab d 268 [.int x2] h1) (k' := 20) (ls' := [some (.ref l0), some (.int l1), some (.int l2)]) (st' := [.int l1]) rfl ?_
    intro x4 h3
    refine mX_to 1 (k' := 21) (ls' := [some (.ref l0), some (.int l1), some (.int l2)]) (st' := [.int 1, .int x4, .int l1]) (h' := h3) rfl ?_
    refine mX_br (t := 22) (f := 26) (ls' := [some (.ref l0), some (.int l1), some (.int l2)]) (st' := [.int l1]) (h' := h3) rfl ?_ ?_
    · refine mX_to 4 (k' := 27) (ls' := [some (.ref l0), some (.int l1), some (.int l2)]) (st' := [.int (1 <<< (l2 &&& 31)), .int l1]) (h' := h3) rfl ?_
      rfl
    · refine mX_to 1 (k' := 27) (ls' := [some (.ref l0), some (.int l1), some (.int l2)]) (st' := [.int 0, .int l1]) (h' := h3) rfl ?_
      rfl
  · refine mX_to 1 (k' := 32) (ls' := [some (.ref l0), some (.int l1), some (.int l2)]) (st' := [.int l1]) (h' := h) rfl ?_
    exact mX_reti rfl
theorem D_X11_lone_27 (d : Nat) (h : MH) (l0 : Nat) (l1 : Int32) (l2 : Int32) (s0 : Int32) (s1 : Int32) : mX (mE mtab d) KX11_lone 27 [some (.ref l0), some (.int l1), some (.int l2)] [.int s0, .int s1] h = lt_ (s1 ||| s0) fun v5 => mX (mE mtab d) KX11_lone 4 [some (.ref l0), some (.int v5), some (.int (l2 + 1))] [] h := by
  refine mX_to 1 (k' := 28) (ls' := [some (.ref l0), some (.int l1), some (.int l2)]) (st' := [.int (s1 ||| s0)]) (h' := h) rfl ?_
  refine lt_gen (X := fun v5 : Int32 => mX (mE mtab d) KX11_lone 28 [some (.ref l0), some (.int l1), some (.int l2)] [.int v5] h) fun v5 => ?_
  refine mX_to 3 (k' := 4) (ls' := [some (.ref l0), some (.int v5), some (.int (l2 + 1))]) (st' := []) (h' := h) rfl ?_
  rfl
theorem D_X11_lone (d : Nat) (h : MH) (a0 : Nat) : mE mtab (d + 1) 320 [.ref a0] h = mX (mE mtab d) KX11_lone 4 [some (.ref a0), some (.int 0), some (.int 0)] [] h := by
  refine mE_eq (q := (yX11_lone, cX11_lone, 3, (some .int), KX11_lone)) (C := KX11_lone) (ls := [some (.ref a0), none, none]) rfl rfl rfl rfl ?_
  refine mX_to 4 (k' := 4) (ls' := [some (.ref a0), some (.int 0), some (.int 0)]) (st' := []) (h' := h) rfl ?_
  rfl
theorem D_X10_heaviest_6 (d : Nat) (h : MH) (l0 : Nat) (l1 : Int32) (l2 : Int32) (l3 : Int32) (o4 : Option Value) : mX (mE mtab d) KX10_heaviest 6 [some (.ref l0), some (.int l1), some (.int l2), some (.int l3), o4] [] h = (if l3 < 9 then ck (kd h l0 = 11) (ck (kd h (gR h l0 0) = 1) (ck (kd h (gR h (gR h l0 0) 0) = 10) (cI (mE mtab d 141 [.ref (gR h (gR h l0 0) 0), .int l3] h) (fun x2 h1 => (if x2 ≤ l2 then mX (mE mtab d) KX10_heaviest 22 [some (.ref l0), some (.int l1), some (.int l2), some (.int l3), some (.int x2)] [] h1 else mX (mE mtab d) KX10_heaviest 22 [some (.ref l0), some (.int l3), some (.int x2), some (.int l3), some (.int x2)] [] h1))))) else some (.int l1, h)) := by
  refine mX_to 2 (k' := 8) (ls' := [some (.ref l0), some (.int l1), some (.int l2), some (.int l3), o4]) (st' := [.int 9, .int l3]) (h' := h) rfl ?_
  refine mX_br (t := 9) (f := 24) (ls' := [some (.ref l0), some (.int l1), some (.int l2), some (.int l3), o4]) (st' := []) (h' := h) rfl ?_ ?_
  · refine mX_to 1 (k' := 10) (ls' := [some (.ref l0), some (.int l1), some (.int l2), some (.int l3), o4]) (st' := [.ref l0]) (h' := h) rfl ?_
    refine mX_ck (k' := 11) (ls' := [some (.ref l0), some (.int l1), some (.int l2), some (.int l3), o4]) (st' := [.ref (gR h l0 0)]) (h' := h) rfl ?_
    refine mX_ck (k' := 12) (ls' := [some (.ref l0), some (.int l1), some (.int l2), some (.int l3), o4]) (st' := [.ref (gR h (gR h l0 0) 0)]) (h' := h) rfl ?_
    refine mX_to 1 (k' := 13) (ls' := [some (.ref l0), some (.int l1), some (.int l2), some (.int l3), o4]) (st' := [.int l3, .ref (gR h (gR h l0 0) 0)]) (h' := h) rfl ?_
    refine mX_ckc (m := mcl (mE mtab d 141 [.ref (gR h (gR h l0 0) 0), .int l3] h) 1 14 [some (.ref l0), some (.int l1), some (.int l2), some (.int l3), o4] []) rfl ?_
    refine mk_cI ?_
    intro x2 h1
    refine mX_to 3 (k' := 17) (ls' := [some (.ref l0), some (.int l1), some (.int l2), some (.int l3), some (.int x2)]) (st' := [.int l2, .int x2]) (h' := h1) rfl ?_
    refine mX_br (t := 22) (f := 18) (ls' := [some (.ref l0), some (.int l1), some (.int l2), some (.int l3), some (.int x2)]) (st' := []) (h' := h1) rfl ?_ ?_
    · rfl
    · refine mX_to 4 (k' := 22) (ls' := [some (.ref l0), some (.int l3), some (.int x2), some (.int l3), some (.int x2)]) (st' := []) (h' := h1) rfl ?_
      rfl
  · refine mX_to 1 (k' := 25) (ls' := [some (.ref l0), some (.int l1), some (.int l2), some (.int l3), o4]) (st' := [.int l1]) (h' := h) rfl ?_
    exact mX_reti rfl
theorem D_X10_heaviest_22 (d : Nat) (h : MH) (l0 : Nat) (l1 : Int32) (l2 : Int32) (l3 : Int32) (l4 : Int32) : mX (mE mtab d) KX10_heaviest 22 [some (.ref l0), some (.int l1), some (.int l2), some (.int l3), some (.int l4)] [] h = mX (mE mtab d) KX10_heaviest 6 [some (.ref l0), some (.int l1), some (.int l2), some (.int (l3 + 1)), some (.int l4)] [] h := by
  refine mX_to 2 (k' := 6) (ls' := [some (.ref l0), some (.int l1), some (.int l2), some (.int (l3 + 1)), some (.int l4)]) (st' := []) (h' := h) rfl ?_
  rfl
theorem D_X10_heaviest (d : Nat) (h : MH) (a0 : Nat) : mE mtab (d + 1) 321 [.ref a0] h = mX (mE mtab d) KX10_heaviest 6 [some (.ref a0), some (.int (-1)), some (.int 0), some (.int 0), none] [] h := by
  refine mE_eq (q := (yX10_heaviest, cX10_heaviest, 5, (some .int), KX10_heaviest)) (C := KX10_heaviest) (ls := [some (.ref a0), none, none, none, none]) rfl rfl rfl rfl ?_
  refine mX_to 6 (k' := 6) (ls' := [some (.ref a0), some (.int (-1)), some (.int 0), some (.int 0), none]) (st' := []) (h' := h) rfl ?_
  rfl
