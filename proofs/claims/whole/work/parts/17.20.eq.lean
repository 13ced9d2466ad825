/-! EQUATIONS OF THE METHODS (written by wip/gen/dgen.py) -/
theorem D_X11_quarrel_21 (d : Nat) (h : MH) (l0 : Nat) (l1 : Int32) (l2 : Int32) (l3 : Int32) (l4 : Int32) : mX (mE mtab d) KX11_quarrel 21 [some (.ref l0), some (.int l1), some (.int l2), some (.int l3), some (.int l4)] [] h = ck (kd h l0 = 12) (ck ((kd h (gR h l0 0) = 20 ∨ kd h (gR h l0 0) = 24) ∧ ib (0 : Int32) (ln h (gR h l0 0))) ((if l4 < (gI h (gR h l0 0) (ix (0 : Int32))) then ck (kd h l0 = 12) (cI (mE mtab d 281 [.ref l0, .int l2, .int l4, .int l3] h) (fun x7 h6 => (if x7 = 0 then mX (mE mtab d) KX11_quarrel 46 [some (.ref l0), some (.int l1), some (.int l2), some (.int l3), some (.int l4)] [] h6 else ck (kd h6 l0 = 12) (ck ((kd h6 (gR h6 l0 31) = 22 ∨ kd h6 (gR h6 l0 31) = 26) ∧ ib (l2 &&& ((1 <<< (l4 &&& 31)) ^^^ (-1))) (ln h6 (gR h6 l0 31))) ((if (gI h6 (gR h6 l0 31) (ix (l2 &&& ((1 <<< (l4 &&& 31)) ^^^ (-1))))) = 0 then some (.int l4, h6) else mX (mE mtab d) KX11_quarrel 46 [some (.ref l0), some (.int l1), some (.int l2), some (.int l3), some (.int l4)] [] h6)))))) else some (.int (-1), h)))) := by
  refine mX_to 2 (k' := 23) (ls' := [some (.ref l0), some (.int l1), some (.int l2), some (.int l3), some (.int l4)]) (st' := [.ref l0, .int l4]) (h' := h) rfl ?_
  refine mX_ck (k' := 24) (ls' := [some (.ref l0), some (.int l1), some (.int l2), some (.int l3), some (.int l4)]) (st' := [.ref (gR h l0 0), .int l4]) (h' := h) rfl ?_
  refine mX_to 1 (k' := 25) (ls' := [some (.ref l0), some (.int l1), some (.int l2), some (.int l3), some (.int l4)]) (st' := [.int 0, .ref (gR h l0 0), .int l4]) (h' := h) rfl ?_
  refine mX_ck (k' := 26) (ls' := [some (.ref l0), some (.int l1), some (.int l2), some (.int l3), some (.int l4)]) (st' := [.int (gI h (gR h l0 0) (ix (0 : Int32))), .int l4]) (h' := h) rfl ?_
  refine mX_br (t := 27) (f := 48) (ls' := [some (.ref l0), some (.int l1), some (.int l2), some (.int l3), some (.int l4)]) (st' := []) (h' := h) rfl ?_ ?_
  · refine mX_to 4 (k' := 31) (ls' := [some (.ref l0), some (.int l1), some (.int l2), some (.int l3), some (.int l4)]) (st' := [.int l3, .int l4, .int l2, .ref l0]) (h' := h) rfl ?_
    refine mX_ckc (m := mcl (mE mtab d 281 [.ref l0, .int l2, .int l4, .int l3] h) 1 32 [some (.ref l0), some (.int l1), some (.int l2), some (.int l3), some (.int l4)] []) rfl ?_
    refine mk_cI ?_
    intro x7 h6
    refine mX_br (t := 46) (f := 33) (ls' := [some (.ref l0), some (.int l1), some (.int l2), some (.int l3), some (.int l4)]) (st' := []) (h' := h6) rfl ?_ ?_
    · rfl
    · refine mX_to 1 (k' := 34) (ls' := [some (.ref l0), some (.int l1), some (.int l2), some (.int l3), some (.int l4)]) (st' := [.ref l0]) (h' := h6) rfl ?_
      refine mX_ck (k' := 35) (ls' := [some (.ref l0), some (.int l1), some (.int l2), some (.int l3), some (.int l4)]) (st' := [.ref (gR h6 l0 31)]) (h' := h6) rfl ?_
      refine mX_to 7 (k' := 42) (ls' := [some (.ref l0), some (.int l1), some (.int l2), some (.int l3), some (.int l4)]) (st' := [.int (l2 &&& ((1 <<< (l4 &&& 31)) ^^^ (-1))), .ref (gR h6 l0 31)]) (h' := h6) rfl ?_
      refine mX_ck (k' := 43) (ls' := [some (.ref l0), some (.int l1), some (.int l2), some (.int l3), some (.int l4)]) (st' := [.int (gI h6 (gR h6 l0 31) (ix (l2 &&& ((1 <<< (l4 &&& 31)) ^^^ (-1)))))]) (h' := h6) rfl ?_
      refine mX_br (t := 44) (f := 46) (ls' := [some (.ref l0), some (.int l1), some (.int l2), some (.int l3), some (.int l4)]) (st' := []) (h' := h6) rfl ?_ ?_
      · refine mX_to 1 (k' := 45) (ls' := [some (.ref l0), some (.int l1), some (.int l2), some (.int l3), some (.int l4)]) (st' := [.int l4]) (h' := h6) rfl ?_
        exact mX_reti rfl
      · rfl
  · refine mX_to 1 (k' := 49) (ls' := [some (.ref l0), some (.int l1), some (.int l2), some (.int l3), some (.int l4)]) (st' := [.int (-1)]) (h' := h) rfl ?_
    exact mX_reti rfl
theorem D_X11_quarrel_46 (d : Nat) (h : MH) (l0 : Nat) (l1 : Int32) (l2 : Int32) (l3 : Int32) (l4 : Int32) : mX (mE mtab d) KX11_quarrel 46 [some (.ref l0), some (.int l1), some (.int l2), some (.int l3), some (.int l4)] [] h = mX (mE mtab d) KX11_quarrel 21 [some (.ref l0), some (.int l1), some (.int l2), some (.int l3), some (.int (l4 + 1))] [] h := by
  refine mX_to 2 (k' := 21) (ls' := [some (.ref l0), some (.int l1), some (.int l2), some (.int l3), some (.int (l4 + 1))]) (st' := []) (h' := h) rfl ?_
  rfl
theorem D_X11_quarrel (d : Nat) (h : MH) (a0 : Nat) (a1 : Int32) : mE mtab (d + 1) 283 [.ref a0, .int a1] h = ck (kd h a0 = 12) (cV (mE mtab d 282 [.ref a0] h) (fun h1 => ck (kd h1 a0 = 12) (cI (mE mtab d 154 [.ref a0] h1) (fun x3 h2 => (if a1 = 0 then ck (kd h2 a0 = 12) (ck ((kd h2 (gR h2 a0 31) = 22 ∨ kd h2 (gR h2 a0 31) = 26) ∧ ib x3 (ln h2 (gR h2 a0 31))) ((if (gI h2 (gR h2 a0 31) (ix x3)) = 0 then some (.int 0, h2) else some (.int 1, h2)))) else ck (kd h2 a0 = 12) (cI (mE mtab d 172 [.ref a0] h2) (fun x5 h4 => mX (mE mtab d) KX11_quarrel 21 [some (.ref a0), some (.int a1), some (.int x3), some (.int x5), some (.int 0)] [] h4))))))) := by
  refine mE_eq (q := (yX11_quarrel, cX11_quarrel, 5, (some .int), KX11_quarrel)) (C := KX11_quarrel) (ls := [some (.ref a0), some (.int a1), none, none, none]) rfl rfl rfl rfl ?_
  refine mX_to 1 (k' := 1) (ls' := [some (.ref a0), some (.int a1), none, none, none]) (st' := [.ref a0]) (h' := h) rfl ?_
  refine mX_ckc (m := mcl (mE mtab d 282 [.ref a0] h) 0 2 [some (.ref a0), some (.int a1), none, none, none] []) rfl ?_
  refine mk_cV ?_
  intro h1
  refine mX_to 1 (k' := 3) (ls' := [some (.ref a0), some (.int a1), none, none, none]) (st' := [.ref a0]) (h' := h1) rfl ?_
  refine mX_ckc (m := mcl (mE mtab d 154 [.ref a0] h1) 1 4 [some (.ref a0), some (.int a1), none, none, none] []) rfl ?_
  refine mk_cI ?_
  intro x3 h2
  refine mX_to 2 (k' := 6) (ls' := [some (.ref a0), some (.int a1), some (.int x3), none, none]) (st' := [.int a1]) (h' := h2) rfl ?_
  refine mX_br (t := 7) (f := 16) (ls' := [some (.ref a0), some (.int a1), some (.int x3), none, none]) (st' := []) (h' := h2) rfl ?_ ?_
  · refine mX_to 1 (k' := 8) (ls' := [some (.ref a0), some (.int a1), some (.int x3), none, none]) (st' := [.ref a0]) (h' := h2) rfl ?_
    refine mX_ck (k' := 9) (ls' := [some (.ref a0), some (.int a1), some (.int x3), none, none]) (st' := [.ref (gR h2 a0 31)]) (h' := h2) rfl ?_
    refine mX_to 1 (k' := 10) (ls' := [some (.ref a0), some (.int a1), some (.int x3), none, none]) (st' := [.int x3, .ref (gR h2 a0 31)]) (h' := h2) rfl ?_
    refine mX_ck (k' := 11) (ls' := [some (.ref a0), some (.int a1), some (.int x3), none, none]) (st' := [.int (gI h2 (gR h2 a0 31) (ix x3))]) (h' := h2) rfl ?_
    refine mX_br (t := 14) (f := 12) (ls' := [some (.ref a0), some (.int a1), some (.int x3), none, none]) (st' := []) (h' := h2) rfl ?_ ?_
    · refine mX_to 1 (k' := 15) (ls' := [some (.ref a0), some (.int a1), some (.int x3), none, none]) (st' := [.int 0]) (h' := h2) rfl ?_
      exact mX_reti rfl
    · refine mX_to 2 (k' := 15) (ls' := [some (.ref a0), some (.int a1), some (.int x3), none, none]) (st' := [.int 1]) (h' := h2) rfl ?_
      exact mX_reti rfl
  · refine mX_to 1 (k' := 17) (ls' := [some (.ref a0), some (.int a1), some (.int x3), none, none]) (st' := [.ref a0]) (h' := h2) rfl ?_
    refine mX_ckc (m := mcl (mE mtab d 172 [.ref a0] h2) 1 18 [some (.ref a0), some (.int a1), some (.int x3), none, none] []) rfl ?_
    refine mk_cI ?_
    intro x5 h4
    refine mX_to 3 (k' := 21) (ls' := [some (.ref a0), some (.int a1), some (.int x3), some (.int x5), some (.int 0)]) (st' := []) (h' := h4) rfl ?_
    rfl
theorem D_X10_orders (d : Nat) (h : MH) (a0 : Nat) : mE mtab (d + 1) 284 [.ref a0] h = ck (kd h a0 = 11) (ck (kd h a0 = 11) (ck (kd h (gR h a0 0) = 1) (ck (kd h (gR h a0 6) = 2) (cV (mE mtab d 278 [.ref (gR h a0 6), .ref (gR h (gR h a0 0) 0)] h) (fun h1 => ck (kd h1 a0 = 11) (ck (kd h1 (gR h1 a0 6) = 2) (ck (kd h1 a0 = 11) (ck (kd h1 (gR h1 a0 6) = 2) (ck (kd h1 (gR h1 (gR h1 a0 6) 1) = 21 ∧ ib (gI h1 (gR h1 a0 6) 4) (ln h1 (gR h1 (gR h1 a0 6) 1))) (some (.long (gL h1 (gR h1 (gR h1 a0 6) 1) (ix (gI h1 (gR h1 a0 6) 4))), h1))))))))))) := by
  refine mE_eq (q := (yX10_orders, cX10_orders, 1, (some .long), KX10_orders)) (C := KX10_orders) (ls := [some (.ref a0)]) rfl rfl rfl rfl ?_
  refine mX_to 1 (k' := 1) (ls' := [some (.ref a0)]) (st' := [.ref a0]) (h' := h) rfl ?_
  refine mX_ck (k' := 2) (ls' := [some (.ref a0)]) (st' := [.ref (gR h a0 6)]) (h' := h) rfl ?_
  refine mX_to 1 (k' := 3) (ls' := [some (.ref a0)]) (st' := [.ref a0, .ref (gR h a0 6)]) (h' := h) rfl ?_
  refine mX_ck (k' := 4) (ls' := [some (.ref a0)]) (st' := [.ref (gR h a0 0), .ref (gR h a0 6)]) (h' := h) rfl ?_
  refine mX_ck (k' := 5) (ls' := [some (.ref a0)]) (st' := [.ref (gR h (gR h a0 0) 0), .ref (gR h a0 6)]) (h' := h) rfl ?_
  refine mX_ckc (m := mcl (mE mtab d 278 [.ref (gR h a0 6), .ref (gR h (gR h a0 0) 0)] h) 0 6 [some (.ref a0)] []) rfl ?_
  refine mk_cV ?_
  intro h1
  refine mX_to 1 (k' := 7) (ls' := [some (.ref a0)]) (st' := [.ref a0]) (h' := h1) rfl ?_
  refine mX_ck (k' := 8) (ls' := [some (.ref a0)]) (st' := [.ref (gR h1 a0 6)]) (h' := h1) rfl ?_
  refine mX_ck (k' := 9) (ls' := [some (.ref a0)]) (st' := [.ref (gR h1 (gR h1 a0 6) 1)]) (h' := h1) rfl ?_
  refine mX_to 1 (k' := 10) (ls' := [some (.ref a0)]) (st' := [.ref a0, .ref (gR h1 (gR h1 a0 6) 1)]) (h' := h1) rfl ?_
  refine mX_ck (k' := 11) (ls' := [some (.ref a0)]) (st' := [.ref (gR h1 a0 6), .ref (gR h1 (gR h1 a0 6) 1)]) (h' := h1) rfl ?_
  refine mX_ck (k' := 12) (ls' := [some (.ref a0)]) (st' := [.int (gI h1 (gR h1 a0 6) 4), .ref (gR h1 (gR h1 a0 6) 1)]) (h' := h1) rfl ?_
  refine mX_ck (k' := 13) (ls' := [some (.ref a0)]) (st' := [.long (gL h1 (gR h1 (gR h1 a0 6) 1) (ix (gI h1 (gR h1 a0 6) 4)))]) (h' := h1) rfl ?_
  exact mX_ret rfl
theorem D_X11_orders (d : Nat) (h : MH) (a0 : Nat) : mE mtab (d + 1) 285 [.ref a0] h = ck (kd h a0 = 12) (cV (mE mtab d 282 [.ref a0] h) (fun h1 => ck (kd h1 a0 = 12) (ck (kd h1 a0 = 12) (cI (mE mtab d 154 [.ref a0] h1) (fun x3 h2 => ck (kd h2 (gR h1 a0 32) = 21 ∧ ib x3 (ln h2 (gR h1 a0 32))) (some (.long (gL h2 (gR h1 a0 32) (ix x3)), h2))))))) := by
  refine mE_eq (q := (yX11_orders, cX11_orders, 1, (some .long), KX11_orders)) (C := KX11_orders) (ls := [some (.ref a0)]) rfl rfl rfl rfl ?_
  refine mX_to 1 (k' := 1) (ls' := [some (.ref a0)]) (st' := [.ref a0]) (h' := h) rfl ?_
  refine mX_ckc (m := mcl (mE mtab d 282 [.ref a0] h) 0 2 [some (.ref a0)] []) rfl ?_
  refine mk_cV ?_
  intro h1
  refine mX_to 1 (k' := 3) (ls' := [some (.ref a0)]) (st' := [.ref a0]) (h' := h1) rfl ?_
  refine mX_ck (k' := 4) (ls' := [some (.ref a0)]) (st' := [.ref (gR h1 a0 32)]) (h' := h1) rfl ?_
  refine mX_to 1 (k' := 5) (ls' := [some (.ref a0)]) (st' := [.ref a0, .ref (gR h1 a0 32)]) (h' := h1) rfl ?_
  refine mX_ckc (m := mcl (mE mtab d 154 [.ref a0] h1) 1 6 [some (.ref a0)] [.ref (gR h1 a0 32)]) rfl ?_
  refine mk_cI ?_
  intro x3 h2
  refine mX_ck (k' := 7) (ls' := [some (.ref a0)]) (st' := [.long (gL h2 (gR h1 a0 32) (ix x3))]) (h' := h2) rfl ?_
  exact mX_ret rfl
theorem D_X1_nextOff_2 (d : Nat) (h : MH) (l0 : Nat) (l1 : Int32) (l2 : Int32) : mX (mE mtab d) KX1_nextOff 2 [some (.ref l0), some (.int l1), some (.int l2)] [] h = (if l2 < 4 then ck (kd h l0 = 2) (cI (mE mtab d 276 [.ref l0, .int l1, .int l2] h) (fun x2 h1 => (if x2 = 0 then mX (mE mtab d) KX1_nextOff 23 [some (.ref l0), some (.int l1), some (.int l2)] [] h1 else ck (kd h1 l0 = 2) (ck (kd h1 (gR h1 l0 1) = 21 ∧ ib (l1 - (1 <<< (l2 &&& 31))) (ln h1 (gR h1 l0 1))) ((if (lg_cmp (gL h1 (gR h1 l0 1) (ix (l1 - (1 <<< (l2 &&& 31))))) 0) ≤ 0 then mX (mE mtab d) KX1_nextOff 23 [some (.ref l0), some (.int l1), some (.int l2)] [] h1 else some (.int l2, h1))))))) else some (.int (-2), h)) := by
  refine mX_to 2 (k' := 4) (ls' := [some (.ref l0), some (.int l1), some (.int l2)]) (st' := [.int 4, .int l2]) (h' := h) rfl ?_
  refine mX_br (t := 5) (f := 25) (ls' := [some (.ref l0), some (.int l1), some (.int l2)]) (st' := []) (h' := h) rfl ?_ ?_
  · refine mX_to 3 (k' := 8) (ls' := [some (.ref l0), some (.int l1), some (.int l2)]) (st' := [.int l2, .int l1, .ref l0]) (h' := h) rfl ?_
    refine mX_ckc (m := mcl (mE mtab d 276 [.ref l0, .int l1, .int l2] h) 1 9 [some (.ref l0), some (.int l1), some (.int l2)] []) rfl ?_
    refine mk_cI ?_
    intro x2 h1
    refine mX_br (t := 23) (f := 10) (ls' := [some (.ref l0), some (.int l1), some (.int l2)]) (st' := []) (h' := h1) rfl ?_ ?_
    · rfl
    · refine mX_to 1 (k' := 11) (ls' := [some (.ref l0), some (.int l1), some (.int l2)]) (st' := [.ref l0]) (h' := h1) rfl ?_
      refine mX_ck (k' := 12) (ls' := [some (.ref l0), some (.int l1), some (.int l2)]) (st' := [.ref (gR h1 l0 1)]) (h' := h1) rfl ?_
      refine mX_to 5 (k' := 17) (ls' := [some (.ref l0), some (.int l1), some (.int l2)]) (st' := [.int (l1 - (1 <<< (l2 &&& 31))), .ref (gR h1 l0 1)]) (h' := h1) rfl ?_
      refine mX_ck (k' := 18) (ls' := [some (.ref l0), some (.int l1), some (.int l2)]) (st' := [.long (gL h1 (gR h1 l0 1) (ix (l1 - (1 <<< (l2 &&& 31)))))]) (h' := h1) rfl ?_
      refine mX_to 2 (k' := 20) (ls' := [some (.ref l0), some (.int l1), some (.int l2)]) (st' := [.int (lg_cmp (gL h1 (gR h1 l0 1) (ix (l1 - (1 <<< (l2 &&& 31))))) 0)]) (h' := h1) rfl ?_
      refine mX_br (t := 23) (f := 21) (ls' := [some (.ref l0), some (.int l1), some (.int l2)]) (st' := []) (h' := h1) rfl ?_ ?_
      · rfl
      · refine mX_to 1 (k' := 22) (ls' := [some (.ref l0), some (.int l1), some (.int l2)]) (st' := [.int l2]) (h' := h1) rfl ?_
        exact mX_reti rfl
  · refine mX_to 1 (k' := 26) (ls' := [some (.ref l0), some (.int l1), some (.int l2)]) (st' := [.int (-2)]) (h' := h) rfl ?_
    exact mX_reti rfl
theorem D_X1_nextOff_23 (d : Nat) (h : MH) (l0 : Nat) (l1 : Int32) (l2 : Int32) : mX (mE mtab d) KX1_nextOff 23 [some (.ref l0), some (.int l1), some (.int l2)] [] h = mX (mE mtab d) KX1_nextOff 2 [some (.ref l0), some (.int l1), some (.int (l2 + 1))] [] h := by
  refine mX_to 2 (k' := 2) (ls' := [some (.ref l0), some (.int l1), some (.int (l2 + 1))]) (st' := []) (h' := h) rfl ?_
  rfl
theorem D_X1_nextOff (d : Nat) (h : MH) (a0 : Nat) (a1 : Int32) : mE mtab (d + 1) 286 [.ref a0, .int a1] h = mX (mE mtab d) KX1_nextOff 2 [some (.ref a0), some (.int a1), some (.int 0)] [] h := by
  refine mE_eq (q := (yX1_nextOff, cX1_nextOff, 3, (some .int), KX1_nextOff)) (C := KX1_nextOff) (ls := [some (.ref a0), some (.int a1), none]) rfl rfl rfl rfl ?_
  refine mX_to 2 (k' := 2) (ls' := [some (.ref a0), some (.int a1), some (.int 0)]) (st' := []) (h' := h) rfl ?_
  rfl
theorem D_X1_goingOff_7 (d : Nat) (h : MH) (l0 : Nat) (l1 : Int32) (l2 : Int32) (l3 : Int32) (l4 : Int32) : mX (mE mtab d) KX1_goingOff 7 [some (.ref l0), some (.int l1), some (.int l2), some (.int l3), some (.int l4)] [] h = (if l4 ≤ l1 then (if l2 = 0 then some (.int l3, h) else ck (kd h l0 = 2) (cI (mE mtab d 286 [.ref l0, .int l2] h) (fun x3 h2 => (if x3 = (-2) then some (.int (-2), h2) else lt_ (l2 - (1 <<< (x3 &&& 31))) fun v4 => mX (mE mtab d) KX1_goingOff 7 [some (.ref l0), some (.int l1), some (.int v4), some (.int x3), some (.int (l4 + 1))] [] h2)))) else some (.int l3, h)) := by
  refine mX_to 2 (k' := 9) (ls' := [some (.ref l0), some (.int l1), some (.int l2), some (.int l3), some (.int l4)]) (st' := [.int l1, .int l4]) (h' := h) rfl ?_
  refine mX_br (t := 10) (f := 29) (ls' := [some (.ref l0), some (.int l1), some (.int l2), some (.int l3), some (.int l4)]) (st' := []) (h' := h) rfl ?_ ?_
  · refine mX_to 1 (k' := 11) (ls' := [some (.ref l0), some (.int l1), some (.int l2), some (.int l3), some (.int l4)]) (st' := [.int l2]) (h' := h) rfl ?_
    refine mX_br (t := 29) (f := 12) (ls' := [some (.ref l0), some (.int l1), some (.int l2), some (.int l3), some (.int l4)]) (st' := []) (h' := h) rfl ?_ ?_
    · refine mX_to 1 (k' := 30) (ls' := [some (.ref l0), some (.int l1), some (.int l2), some (.int l3), some (.int l4)]) (st' := [.int l3]) (h' := h) rfl ?_
      exact mX_reti rfl
    · refine mX_to 2 (k' := 14) (ls' := [some (.ref l0), some (.int l1), some (.int l2), some (.int l3), some (.int l4)]) (st' := [.int l2, .ref l0]) (h' := h) rfl ?_
      refine mX_ckc (m := mcl (mE mtab d 286 [.ref l0, .int l2] h) 1 15 [some (.ref l0), some (.int l1), some (.int l2), some (.int l3), some (.int l4)] []) rfl ?_
      refine mk_cI ?_
      intro x3 h2
      refine mX_to 3 (k' := 18) (ls' := [some (.ref l0), some (.int l1), some (.int l2), some (.int x3), some (.int l4)]) (st' := [.int (-2), .int x3]) (h' := h2) rfl ?_
      refine mX_br (t := 19) (f := 21) (ls' := [some (.ref l0), some (.int l1), some (.int l2), some (.int x3), some (.int l4)]) (st' := []) (h' := h2) rfl ?_ ?_
      · refine mX_to 1 (k' := 20) (ls' := [some (.ref l0), some (.int l1), some (.int l2), some (.int x3), some (.int l4)]) (st' := [.int (-2)]) (h' := h2) rfl ?_
        exact mX_reti rfl
      · refine mX_to 5 (k' := 26) (ls' := [some (.ref l0), some (.int l1), some (.int l2), some (.int x3), some (.int l4)]) (st' := [.int (l2 - (1 <<< (x3 &&& 31)))]) (h' := h2) rfl ?_
        refine lt_gen (X := fun v4 : Int32 => mX (mE mtab d) KX1_goingOff 26 [some (.ref l0), some (.int l1), some (.int l2), some (.int x3), some (.int l4)] [.int v4] h2) fun v4 => ?_
        refine mX_to 3 (k' := 7) (ls' := [some (.ref l0), some (.int l1), some (.int v4), some (.int x3), some (.int (l4 + 1))]) (st' := []) (h' := h2) rfl ?_
        rfl
  · refine mX_to 1 (k' := 30) (ls' := [some (.ref l0), some (.int l1), some (.int l2), some (.int l3), some (.int l4)]) (st' := [.int l3]) (h' := h) rfl ?_
    exact mX_reti rfl
theorem D_X1_goingOff (d : Nat) (h : MH) (a0 : Nat) (a1 : Int32) : mE mtab (d + 1) 287 [.ref a0, .int a1] h = ck (kd h a0 = 2) (lt_ (gI h a0 4) fun v1 => mX (mE mtab d) KX1_goingOff 7 [some (.ref a0), some (.int a1), some (.int v1), some (.int (-2)), some (.int 0)] [] h) := by
  refine mE_eq (q := (yX1_goingOff, cX1_goingOff, 5, (some .int), KX1_goingOff)) (C := KX1_goingOff) (ls := [some (.ref a0), some (.int a1), none, none, none]) rfl rfl rfl rfl ?_
  refine mX_to 1 (k' := 1) (ls' := [some (.ref a0), some (.int a1), none, none, none]) (st' := [.ref a0]) (h' := h) rfl ?_
  refine mX_ck (k' := 2) (ls' := [some (.ref a0), some (.int a1), none, none, none]) (st' := [.int (gI h a0 4)]) (h' := h) rfl ?_
  refine lt_gen (X := fun v1 : Int32 => mX (mE mtab d) KX1_goingOff 2 [some (.ref a0), some (.int a1), none, none, none] [.int v1] h) fun v1 => ?_
  refine mX_to 5 (k' := 7) (ls' := [some (.ref a0), some (.int a1), some (.int v1), some (.int (-2)), some (.int 0)]) (st' := []) (h' := h) rfl ?_
  rfl
theorem D_X10_order (d : Nat) (h : MH) (a0 : Nat) (a1 : Int32) : mE mtab (d + 1) 288 [.ref a0, .int a1] h = ck (kd h a0 = 11) (ck (kd h (gR h a0 0) = 1) (ck (kd h (gR h (gR h a0 0) 0) = 10) (cI (mE mtab d 11 [.int a1, .int 0, .int ((gI h (gR h (gR h a0 0) 0) 0) - 1)] h) (fun x2 h1 => (if x2 = 0 then some (.int (-2), h1) else ck (kd h1 a0 = 11) (ck (kd h1 a0 = 11) (ck (kd h1 (gR h1 a0 0) = 1) (ck (kd h1 (gR h1 a0 6) = 2) (cV (mE mtab d 278 [.ref (gR h1 a0 6), .ref (gR h1 (gR h1 a0 0) 0)] h1) (fun h3 => ck (kd h3 a0 = 11) (ck (kd h3 (gR h3 a0 6) = 2) (cI (mE mtab d 287 [.ref (gR h3 a0 6), .int a1] h3) (fun x5 h4 => some (.int x5, h4)))))))))))))) := by
  refine mE_eq (q := (yX10_order, cX10_order, 2, (some .int), KX10_order)) (C := KX10_order) (ls := [some (.ref a0), some (.int a1)]) rfl rfl rfl rfl ?_
  refine mX_to 3 (k' := 3) (ls' := [some (.ref a0), some (.int a1)]) (st' := [.ref a0, .int 0, .int a1]) (h' := h) rfl ?_
  refine mX_ck (k' := 4) (ls' := [some (.ref a0), some (.int a1)]) (st' := [.ref (gR h a0 0), .int 0, .int a1]) (h' := h) rfl ?_
  refine mX_ck (k' := 5) (ls' := [some (.ref a0), some (.int a1)]) (st' := [.ref (gR h (gR h a0 0) 0), .int 0, .int a1]) (h' := h) rfl ?_
  refine mX_ck (k' := 6) (ls' := [some (.ref a0), some (.int a1)]) (st' := [.int (gI h (gR h (gR h a0 0) 0) 0), .int 0, .int a1]) (h' := h) rfl ?_
  refine mX_to 2 (k' := 8) (ls' := [some (.ref a0), some (.int a1)]) (st' := [.int ((gI h (gR h (gR h a0 0) 0) 0) - 1), .int 0, .int a1]) (h' := h) rfl ?_
  refine mX_cI (o := mE mtab d 11 [.int a1, .int 0, .int ((gI h (gR h (gR h a0 0) 0) 0) - 1)] h) (k' := 9) (ls' := [some (.ref a0), some (.int a1)]) (st' := []) rfl ?_
  intro x2 h1
  refine mX_br (t := 10) (f := 12) (ls' := [some (.ref a0), some (.int a1)]) (st' := []) (h' := h1) rfl ?_ ?_
  · refine mX_to 1 (k' := 11) (ls' := [some (.ref a0), some (.int a1)]) (st' := [.int (-2)]) (h' := h1) rfl ?_
    exact mX_reti rfl
  · refine mX_to 1 (k' := 13) (ls' := [some (.ref a0), some (.int a1)]) (st' := [.ref a0]) (h' := h1) rfl ?_
    refine mX_ck (k' := 14) (ls' := [some (.ref a0), some (.int a1)]) (st' := [.ref (gR h1 a0 6)]) (h' := h1) rfl ?_
    refine mX_to 1 (k' := 15) (ls' := [some (.ref a0), some (.int a1)]) (st' := [.ref a0, .ref (gR h1 a0 6)]) (h' := h1) rfl ?_
    refine mX_ck (k' := 16) (ls' := [some (.ref a0), some (.int a1)]) (st' := [.ref (gR h1 a0 0), .ref (gR h1 a0 6)]) (h' := h1) rfl ?_
    refine mX_ck (k' := 17) (ls' := [some (.ref a0), some (.int a1)]) (st' := [.ref (gR h1 (gR h1 a0 0) 0), .ref (gR h1 a0 6)]) (h' := h1) rfl ?_
    refine mX_ckc (m := mcl (mE mtab d 278 [.ref (gR h1 a0 6), .ref (gR h1 (gR h1 a0 0) 0)] h1) 0 18 [some (.ref a0), some (.int a1)] []) rfl ?_
    refine mk_cV ?_
    intro h3
    refine mX_to 1 (k' := 19) (ls' := [some (.ref a0), some (.int a1)]) (st' := [.ref a0]) (h' := h3) rfl ?_
    refine mX_ck (k' := 20) (ls' := [some (.ref a0), some (.int a1)]) (st' := [.ref (gR h3 a0 6)]) (h' := h3) rfl ?_
    refine mX_to 1 (k' := 21) (ls' := [some (.ref a0), some (.int a1)]) (st' := [.int a1, .ref (gR h3 a0 6)]) (h' := h3) rfl ?_
    refine mX_ckc (m := mcl (mE mtab d 287 [.ref (gR h3 a0 6), .int a1] h3) 1 22 [some (.ref a0), some (.int a1)] []) rfl ?_
    refine mk_cI ?_
    intro x5 h4
    exact mX_reti rfl
theorem D_X11_order_31 (d : Nat) (h : MH) (l0 : Nat) (l1 : Int32) (l2 : Int32) (l3 : Int32) (l4 : Int32) (l5 : Int32) : mX (mE mtab d) KX11_order 31 [some (.ref l0), some (.int l1), some (.int l2), some (.int l3), some (.int l4), some (.int l5)] [] h = (if l5 ≤ l1 then mX (mE mtab d) KX11_order 36 [some (.ref l0), some (.int l1), some (.int l2), some (.int l3), some (.int 0), some (.int l5)] [] h else some (.int l4, h)) := by
  refine mX_to 2 (k' := 33) (ls' := [some (.ref l0), some (.int l1), some (.int l2), some (.int l3), some (.int l4), some (.int l5)]) (st' := [.int l1, .int l5]) (h' := h) rfl ?_
  refine mX_br (t := 34) (f := 67) (ls' := [some (.ref l0), some (.int l1), some (.int l2), some (.int l3), some (.int l4), some (.int l5)]) (st' := []) (h' := h) rfl ?_ ?_
  · refine mX_to 2 (k' := 36) (ls' := [some (.ref l0), some (.int l1), some (.int l2), some (.int l3), some (.int 0), some (.int l5)]) (st' := []) (h' := h) rfl ?_
    rfl
  · refine mX_to 1 (k' := 68) (ls' := [some (.ref l0), some (.int l1), some (.int l2), some (.int l3), some (.int l4), some (.int l5)]) (st' := [.int l4]) (h' := h) rfl ?_
    exact mX_reti rfl
theorem D_X11_order_36 (d : Nat) (h : MH) (l0 : Nat) (l1 : Int32) (l2 : Int32) (l3 : Int32) (l4 : Int32) (l5 : Int32) : mX (mE mtab d) KX11_order 36 [some (.ref l0), some (.int l1), some (.int l2), some (.int l3), some (.int l4), some (.int l5)] [] h = ck (kd h l0 = 12) (cI (mE mtab d 281 [.ref l0, .int l2, .int l4, .int l3] h) (fun x9 h8 => (if x9 = 0 then mX (mE mtab d) KX11_order 55 [some (.ref l0), some (.int l1), some (.int l2), some (.int l3), some (.int l4), some (.int l5)] [] h8 else ck (kd h8 l0 = 12) (ck (kd h8 (gR h8 l0 32) = 21 ∧ ib (l2 &&& ((1 <<< (l4 &&& 31)) ^^^ (-1))) (ln h8 (gR h8 l0 32))) ((if (lg_cmp (gL h8 (gR h8 l0 32) (ix (l2 &&& ((1 <<< (l4 &&& 31)) ^^^ (-1))))) 0) = 0 then mX (mE mtab d) KX11_order 55 [some (.ref l0), some (.int l1), some (.int l2), some (.int l3), some (.int l4), some (.int l5)] [] h8 else lt_ (l2 &&& ((1 <<< (l4 &&& 31)) ^^^ (-1))) fun v10 => mX (mE mtab d) KX11_order 31 [some (.ref l0), some (.int l1), some (.int v10), some (.int l3), some (.int l4), some (.int (l5 + 1))] [] h8)))))) := by
  refine mX_to 4 (k' := 40) (ls' := [some (.ref l0), some (.int l1), some (.int l2), some (.int l3), some (.int l4), some (.int l5)]) (st' := [.int l3, .int l4, .int l2, .ref l0]) (h' := h) rfl ?_
  refine mX_ckc (m := mcl (mE mtab d 281 [.ref l0, .int l2, .int l4, .int l3] h) 1 41 [some (.ref l0), some (.int l1), some (.int l2), some (.int l3), some (.int l4), some (.int l5)] []) rfl ?_
  refine mk_cI ?_
  intro x9 h8
  refine mX_br (t := 55) (f := 42) (ls' := [some (.ref l0), some (.int l1), some (.int l2), some (.int l3), some (.int l4), some (.int l5)]) (st' := []) (h' := h8) rfl ?_ ?_
  · rfl
  · refine mX_to 1 (k' := 43) (ls' := [some (.ref l0), some (.int l1), some (.int l2), some (.int l3), some (.int l4), some (.int l5)]) (st' := [.ref l0]) (h' := h8) rfl ?_
    refine mX_ck (k' := 44) (ls' := [some (.ref l0), some (.int l1), some (.int l2), some (.int l3), some (.int l4), some (.int l5)]) (st' := [.ref (gR h8 l0 32)]) (h' := h8) rfl ?_
    refine mX_to 7 (k' := 51) (ls' := [some (.ref l0), some (.int l1), some (.int l2), some (.int l3), some (.int l4), some (.int l5)]) (st' := [.int (l2 &&& ((1 <<< (l4 &&& 31)) ^^^ (-1))), .ref (gR h8 l0 32)]) (h' := h8) rfl ?_
    refine mX_ck (k' := 52) (ls' := [some (.ref l0), some (.int l1), some (.int l2), some (.int l3), some (.int l4), some (.int l5)]) (st' := [.long (gL h8 (gR h8 l0 32) (ix (l2 &&& ((1 <<< (l4 &&& 31)) ^^^ (-1)))))]) (h' := h8) rfl ?_
    refine mX_to 2 (k' := 54) (ls' := [some (.ref l0), some (.int l1), some (.int l2), some (.int l3), some (.int l4), some (.int l5)]) (st' := [.int (lg_cmp (gL h8 (gR h8 l0 32) (ix (l2 &&& ((1 <<< (l4 &&& 31)) ^^^ (-1))))) 0)]) (h' := h8) rfl ?_
    refine mX_br (t := 55) (f := 57) (ls' := [some (.ref l0), some (.int l1), some (.int l2), some (.int l3), some (.int l4), some (.int l5)]) (st' := []) (h' := h8) rfl ?_ ?_
    · rfl
    · refine mX_to 7 (k' := 64) (ls' := [some (.ref l0), some (.int l1), some (.int l2), some (.int l3), some (.int l4), some (.int l5)]) (st' := [.int (l2 &&& ((1 <<< (l4 &&& 31)) ^^^ (-1)))]) (h' := h8) rfl ?_
      refine lt_gen (X := fun v10 : Int32 => mX (mE mtab d) KX11_order 64 [some (.ref l0), some (.int l1), some (.int l2), some (.int l3), some (.int l4), some (.int l5)] [.int v10] h8) fun v10 => ?_
      refine mX_to 3 (k' := 31) (ls' := [some (.ref l0), some (.int l1), some (.int v10), some (.int l3), some (.int l4), some (.int (l5 + 1))]) (st' := []) (h' := h8) rfl ?_
      rfl
theorem D_X11_order_55 (d : Nat) (h : MH) (l0 : Nat) (l1 : Int32) (l2 : Int32) (l3 : Int32) (l4 : Int32) (l5 : Int32) : mX (mE mtab d) KX11_order 55 [some (.ref l0), some (.int l1), some (.int l2), some (.int l3), some (.int l4), some (.int l5)] [] h = mX (mE mtab d) KX11_order 36 [some (.ref l0), some (.int l1), some (.int l2), some (.int l3), some (.int (l4 + 1)), some (.int l5)] [] h := by
  refine mX_to 2 (k' := 36) (ls' := [some (.ref l0), some (.int l1), some (.int l2), some (.int l3), some (.int (l4 + 1)), some (.int l5)]) (st' := []) (h' := h) rfl ?_
  rfl
theorem D_X11_order (d : Nat) (h : MH) (a0 : Nat) (a1 : Int32) : mE mtab (d + 1) 289 [.ref a0, .int a1] h = ck (kd h a0 = 12) (cV (mE mtab d 282 [.ref a0] h) (fun h1 => ck (kd h1 a0 = 12) (cI (mE mtab d 154 [.ref a0] h1) (fun x3 h2 => ck (kd h2 a0 = 12) (ck (kd h2 (gR h2 a0 32) = 21 ∧ ib x3 (ln h2 (gR h2 a0 32))) ((if (lg_cmp (gL h2 (gR h2 a0 32) (ix x3)) 0) = 0 then some (.int (-2), h2) else ck (kd h2 a0 = 12) (ck ((kd h2 (gR h2 a0 0) = 20 ∨ kd h2 (gR h2 a0 0) = 24) ∧ ib (0 : Int32) (ln h2 (gR h2 a0 0))) (cI (mE mtab d 14 [.int a1, .int 0, .int ((gI h2 (gR h2 a0 0) (ix (0 : Int32))) - 1)] h2) (fun x5 h4 => (if x5 = 0 then some (.int (-2), h4) else ck (kd h4 a0 = 12) (cI (mE mtab d 172 [.ref a0] h4) (fun x7 h6 => mX (mE mtab d) KX11_order 31 [some (.ref a0), some (.int a1), some (.int x3), some (.int x7), some (.int 0), some (.int 0)] [] h6))))))))))))) := by
  refine mE_eq (q := (yX11_order, cX11_order, 6, (some .int), KX11_order)) (C := KX11_order) (ls := [some (.ref a0), some (.int a1), none, none, none, none]) rfl rfl rfl rfl ?_
  refine mX_to 1 (k' := 1) (ls' := [some (.ref a0), some (.int a1), none, none, none, none]) (st' := [.ref a0]) (h' := h) rfl ?_
  refine mX_ckc (m := mcl (mE mtab d 282 [.ref a0] h) 0 2 [some (.ref a0), some (.int a1), none, none, none, none] []) rfl ?_
  refine mk_cV ?_
  intro h1
  refine mX_to 1 (k' := 3) (ls' := [some (.ref a0), some (.int a1), none, none, none, none]) (st' := [.ref a0]) (h' := h1) rfl ?_
  refine mX_ckc (m := mcl (mE mtab d 154 [.ref a0] h1) 1 4 [some (.ref a0), some (.int a1), none, none, none, none] []) rfl ?_
  refine mk_cI ?_
  intro x3 h2
  refine mX_to 2 (k' := 6) (ls' := [some (.ref a0), some (.int a1), some (.int x3), none, none, none]) (st' := [.ref a0]) (h' := h2) rfl ?_
  refine mX_ck (k' := 7) (ls' := [some (.ref a0), some (.int a1), some (.int x3), none, none, none]) (st' := [.ref (gR h2 a0 32)]) (h' := h2) rfl ?_
  refine mX_to 1 (k' := 8) (ls' := [some (.ref a0), some (.int a1), some (.int x3), none, none, none]) (st' := [.int x3, .ref (gR h2 a0 32)]) (h' := h2) rfl ?_
  refine mX_ck (k' := 9) (ls' := [some (.ref a0), some (.int a1), some (.int x3), none, none, none]) (st' := [.long (gL h2 (gR h2 a0 32) (ix x3))]) (h' := h2) rfl ?_
  refine mX_to 2 (k' := 11) (ls' := [some (.ref a0), some (.int a1), some (.int x3), none, none, none]) (st' := [.int (lg_cmp (gL h2 (gR h2 a0 32) (ix x3)) 0)]) (h' := h2) rfl ?_
  refine mX_br (t := 22) (f := 12) (ls' := [some (.ref a0), some (.int a1), some (.int x3), none, none, none]) (st' := []) (h' := h2) rfl ?_ ?_
  · refine mX_to 1 (k' := 23) (ls' := [some (.ref a0), some (.int a1), some (.int x3), none, none, none]) (st' := [.int (-2)]) (h' := h2) rfl ?_
    exact mX_reti rfl
  · refine mX_to 3 (k' := 15) (ls' := [some (.ref a0), some (.int a1), some (.int x3), none, none, none]) (st' := [.ref a0, .int 0, .int a1]) (h' := h2) rfl ?_
    refine mX_ck (k' := 16) (ls' := [some (.ref a0), some (.int a1), some (.int x3), none, none, none]) (st' := [.ref (gR h2 a0 0), .int 0, .int a1]) (h' := h2) rfl ?_
    refine mX_to 1 (k' := 17) (ls' := [some (.ref a0), some (.int a1), some (.int x3), none, none, none]) (st' := [.int 0, .ref (gR h2 a0 0), .int 0, .int a1]) (h' := h2) rfl ?_
    refine mX_ck (k' := 18) (ls' := [some (.ref a0), some (.int a1), some (.int x3), none, none, none]) (st' := [.int (gI h2 (gR h2 a0 0) (ix (0 : Int32))), .int 0, .int a1]) (h' := h2) rfl ?_
    refine mX_to 2 (k' := 20) (ls' := [some (.ref a0), some (.int a1), some (.int x3), none, none, none]) (st' := [.int ((gI h2 (gR h2 a0 0) (ix (0 : Int32))) - 1), .int 0, .int a1]) (h' := h2) rfl ?_
    refine mX_cI (o := mE mtab d 14 [.int a1, .int 0, .int ((gI h2 (gR h2 a0 0) (ix (0 : Int32))) - 1)] h2) (k' := 21) (ls' := [some (.ref a0), some (.int a1), some (.int x3), none, none, none]) (st' := []) rfl ?_
    intro x5 h4
    refine mX_br (t := 22) (f := 24) (ls' := [some (.ref a0), some (.int a1), some (.int x3), none, none, none]) (st' := []) (h' := h4) rfl ?_ ?_
    · refine mX_to 1 (k' := 23) (ls' := [some (.ref a0), some (.int a1), some (.int x3), none, none, none]) (st' := [.int (-2)]) (h' := h4) rfl ?_
      exact mX_reti rfl
    · refine mX_to 1 (k' := 25) (ls' := [some (.ref a0), some (.int a1), some (.int x3), none, none, none]) (st' := [.ref a0]) (h' := h4) rfl ?_
      refine mX_ckc (m := mcl (mE mtab d 172 [.ref a0] h4) 1 26 [some (.ref a0), some (.int a1), some (.int x3), none, none, none] []) rfl ?_
      refine mk_cI ?_
      intro x7 h6
      refine mX_to 5 (k' := 31) (ls' := [some (.ref a0), some (.int a1), some (.int x3), some (.int x7), some (.int 0), some (.int 0)]) (st' := []) (h' := h6) rfl ?_
      rfl
theorem D_X1_shareOf_4 (d : Nat) (h : MH) (l0 : Nat) (l1 : Int32) (l2 : Int32) (l3 : Int32) (l4 : Int32) (o5 : Option Value) (o6 : Option Value) : mX (mE mtab d) KX1_shareOf 4 [some (.ref l0), some (.int l1), some (.int l2), some (.int l3), some (.int l4), o5, o6] [] h = ck (kd h l0 = 2) ((if l4 ≤ (gI h l0 4) then cI (mE mtab d 257 [.int l4, .int l1] h) (fun x2 h1 => (if x2 = 0 then cI (mE mtab d 259 [.int l4] h1) (fun x4 h3 => ck ((kd h3 3 = 20 ∨ kd h3 3 = 24) ∧ ib x4 (ln h3 3)) (ck ((kd h3 3 = 20 ∨ kd h3 3 = 24) ∧ ib ((l2 - 1) - x4) (ln h3 3)) (lt_ ((gI h3 3 (ix x4)) * (gI h3 3 (ix ((l2 - 1) - x4)))) fun v5 => ck (kd h3 l0 = 2) (ck ((kd h3 (gR h3 l0 0) = 20 ∨ kd h3 (gR h3 l0 0) = 24) ∧ ib (l4 ||| (1 <<< (l1 &&& 31))) (ln h3 (gR h3 l0 0))) (ck (kd h3 l0 = 2) (ck ((kd h3 (gR h3 l0 0) = 20 ∨ kd h3 (gR h3 l0 0) = 24) ∧ ib l4 (ln h3 (gR h3 l0 0))) (lt_ (l3 + (v5 * ((jabs (gI h3 (gR h3 l0 0) (ix (l4 ||| (1 <<< (l1 &&& 31)))))) - (jabs (gI h3 (gR h3 l0 0) (ix l4)))))) fun v6 => mX (mE mtab d) KX1_shareOf 47 [some (.ref l0), some (.int l1), some (.int l2), some (.int v6), some (.int l4), some (.int x4), some (.int v5)] [] h3))))))) else mX (mE mtab d) KX1_shareOf 47 [some (.ref l0), some (.int l1), some (.int l2), some (.int l3), some (.int l4), o5, o6] [] h1)) else some (.int l3, h))) := by
  refine mX_to 2 (k' := 6) (ls' := [some (.ref l0), some (.int l1), some (.int l2), some (.int l3), some (.int l4), o5, o6]) (st' := [.ref l0, .int l4]) (h' := h) rfl ?_
  refine mX_ck (k' := 7) (ls' := [some (.ref l0), some (.int l1), some (.int l2), some (.int l3), some (.int l4), o5, o6]) (st' := [.int (gI h l0 4), .int l4]) (h' := h) rfl ?_
  refine mX_br (t := 8) (f := 49) (ls' := [some (.ref l0), some (.int l1), some (.int l2), some (.int l3), some (.int l4), o5, o6]) (st' := []) (h' := h) rfl ?_ ?_
  · refine mX_to 2 (k' := 10) (ls' := [some (.ref l0), some (.int l1), some (.int l2), some (.int l3), some (.int l4), o5, o6]) (st' := [.int l1, .int l4]) (h' := h) rfl ?_
    refine mX_cI (o := mE mtab d 257 [.int l4, .int l1] h) (k' := 11) (ls' := [some (.ref l0), some (.int l1), some (.int l2), some (.int l3), some (.int l4), o5, o6]) (st' := []) rfl ?_
    intro x2 h1
    refine mX_br (t := 12) (f := 47) (ls' := [some (.ref l0), some (.int l1), some (.int l2), some (.int l3), some (.int l4), o5, o6]) (st' := []) (h' := h1) rfl ?_ ?_
    · refine mX_to 1 (k' := 13) (ls' := [some (.ref l0), some (.int l1), some (.int l2), some (.int l3), some (.int l4), o5, o6]) (st' := [.int l4]) (h' := h1) rfl ?_
      refine mX_cI (o := mE mtab d 259 [.int l4] h1) (k' := 14) (ls' := [some (.ref l0), some (.int l1), some (.int l2), some (.int l3), some (.int l4), o5, o6]) (st' := []) rfl ?_
      intro x4 h3
      refine mX_to 3 (k' := 17) (ls' := [some (.ref l0), some (.int l1), some (.int l2), some (.int l3), some (.int l4), some (.int x4), o6]) (st' := [.int x4, .ref 3]) (h' := h3) rfl ?_
      refine mX_ck (k' := 18) (ls' := [some (.ref l0), some (.int l1), some (.int l2), some (.int l3), some (.int l4), some (.int x4), o6]) (st' := [.int (gI h3 3 (ix x4))]) (h' := h3) rfl ?_
      refine mX_to 6 (k' := 24) (ls' := [some (.ref l0), some (.int l1), some (.int l2), some (.int l3), some (.int l4), some (.int x4), o6]) (st' := [.int ((l2 - 1) - x4), .ref 3, .int (gI h3 3 (ix x4))]) (h' := h3) rfl ?_
      refine mX_ck (k' := 25) (ls' := [some (.ref l0), some (.int l1), some (.int l2), some (.int l3), some (.int l4), some (.int x4), o6]) (st' := [.int (gI h3 3 (ix ((l2 - 1) - x4))), .int (gI h3 3 (ix x4))]) (h' := h3) rfl ?_
      refine mX_to 1 (k' := 26) (ls' := [some (.ref l0), some (.int l1), some (.int l2), some (.int l3), some (.int l4), some (.int x4), o6]) (st' := [.int ((gI h3 3 (ix x4)) * (gI h3 3 (ix ((l2 - 1) - x4))))]) (h' := h3) rfl ?_
      refine lt_gen (X := fun v5 : Int32 => mX (mE mtab d) KX1_shareOf 26 [some (.ref l0), some (.int l1), some (.int l2), some (.int l3), some (.int l4), some (.int x4), o6] [.int v5] h3) fun v5 => ?_
      refine mX_to 4 (k' := 30) (ls' := [some (.ref l0), some (.int l1), some (.int l2), some (.int l3), some (.int l4), some (.int x4), some (.int v5)]) (st' := [.ref l0, .int v5, .int l3]) (h' := h3) rfl ?_
      refine mX_ck (k' := 31) (ls' := [some (.ref l0), some (.int l1), some (.int l2), some (.int l3), some (.int l4), some (.int x4), some (.int v5)]) (st' := [.ref (gR h3 l0 0), .int v5, .int l3]) (h' := h3) rfl ?_
      refine mX_to 5 (k' := 36) (ls' := [some (.ref l0), some (.int l1), some (.int l2), some (.int l3), some (.int l4), some (.int x4), some (.int v5)]) (st' := [.int (l4 ||| (1 <<< (l1 &&& 31))), .ref (gR h3 l0 0), .int v5, .int l3]) (h' := h3) rfl ?_
      refine mX_ck (k' := 37) (ls' := [some (.ref l0), some (.int l1), some (.int l2), some (.int l3), some (.int l4), some (.int x4), some (.int v5)]) (st' := [.int (gI h3 (gR h3 l0 0) (ix (l4 ||| (1 <<< (l1 &&& 31))))), .int v5, .int l3]) (h' := h3) rfl ?_
      refine mX_to 2 (k' := 39) (ls' := [some (.ref l0), some (.int l1), some (.int l2), some (.int l3), some (.int l4), some (.int x4), some (.int v5)]) (st' := [.ref l0, .int (jabs (gI h3 (gR h3 l0 0) (ix (l4 ||| (1 <<< (l1 &&& 31)))))), .int v5, .int l3]) (h' := h3) rfl ?_
      refine mX_ck (k' := 40) (ls' := [some (.ref l0), some (.int l1), some (.int l2), some (.int l3), some (.int l4), some (.int x4), some (.int v5)]) (st' := [.ref (gR h3 l0 0), .int (jabs (gI h3 (gR h3 l0 0) (ix (l4 ||| (1 <<< (l1 &&& 31)))))), .int v5, .int l3]) (h' := h3) rfl ?_
      refine mX_to 1 (k' := 41) (ls' := [some (.ref l0), some (.int l1), some (.int l2), some (.int l3), some (.int l4), some (.int x4), some (.int v5)]) (st' := [.int l4, .ref (gR h3 l0 0), .int (jabs (gI h3 (gR h3 l0 0) (ix (l4 ||| (1 <<< (l1 &&& 31)))))), .int v5, .int l3]) (h' := h3) rfl ?_
      refine mX_ck (k' := 42) (ls' := [some (.ref l0), some (.int l1), some (.int l2), some (.int l3), some (.int l4), some (.int x4), some (.int v5)]) (st' := [.int (gI h3 (gR h3 l0 0) (ix l4)), .int (jabs (gI h3 (gR h3 l0 0) (ix (l4 ||| (1 <<< (l1 &&& 31)))))), .int v5, .int l3]) (h' := h3) rfl ?_
      refine mX_to 4 (k' := 46) (ls' := [some (.ref l0), some (.int l1), some (.int l2), some (.int l3), some (.int l4), some (.int x4), some (.int v5)]) (st' := [.int (l3 + (v5 * ((jabs (gI h3 (gR h3 l0 0) (ix (l4 ||| (1 <<< (l1 &&& 31)))))) - (jabs (gI h3 (gR h3 l0 0) (ix l4))))))]) (h' := h3) rfl ?_
      refine lt_gen (X := fun v6 : Int32 => mX (mE mtab d) KX1_shareOf 46 [some (.ref l0), some (.int l1), some (.int l2), some (.int l3), some (.int l4), some (.int x4), some (.int v5)] [.int v6] h3) fun v6 => ?_
      refine mX_to 1 (k' := 47) (ls' := [some (.ref l0), some (.int l1), some (.int l2), some (.int v6), some (.int l4), some (.int x4), some (.int v5)]) (st' := []) (h' := h3) rfl ?_
      rfl
    · rfl
  · refine mX_to 1 (k' := 50) (ls' := [some (.ref l0), some (.int l1), some (.int l2), some (.int l3), some (.int l4), o5, o6]) (st' := [.int l3]) (h' := h) rfl ?_
    exact mX_reti rfl
theorem D_X1_shareOf_47 (d : Nat) (h : MH) (l0 : Nat) (l1 : Int32) (l2 : Int32) (l3 : Int32) (l4 : Int32) (o5 : Option Value) (o6 : Option Value) : mX (mE mtab d) KX1_shareOf 47 [some (.ref l0), some (.int l1), some (.int l2), some (.int l3), some (.int l4), o5, o6] [] h = mX (mE mtab d) KX1_shareOf 4 [some (.ref l0), some (.int l1), some (.int l2), some (.int l3), some (.int (l4 + 1)), o5, o6] [] h := by
  refine mX_to 2 (k' := 4) (ls' := [some (.ref l0), some (.int l1), some (.int l2), some (.int l3), some (.int (l4 + 1)), o5, o6]) (st' := []) (h' := h) rfl ?_
  rfl
theorem D_X1_shareOf (d : Nat) (h : MH) (a0 : Nat) (a1 : Int32) (a2 : Int32) : mE mtab (d + 1) 290 [.ref a0, .int a1, .int a2] h = mX (mE mtab d) KX1_shareOf 4 [some (.ref a0), some (.int a1), some (.int a2), some (.int 0), some (.int 0), none, none] [] h := by
  refine mE_eq (q := (yX1_shareOf, cX1_shareOf, 7, (some .int), KX1_shareOf)) (C := KX1_shareOf) (ls := [some (.ref a0), some (.int a1), some (.int a2), none, none, none, none]) rfl rfl rfl rfl ?_
  refine mX_to 4 (k' := 4) (ls' := [some (.ref a0), some (.int a1), some (.int a2), some (.int 0), some (.int 0), none, none]) (st' := []) (h' := h) rfl ?_
  rfl
theorem D_X10_divisor_8 (d : Nat) (h : MH) (l0 : Int32) (l1 : Int32) (l2 : Int32) (l3 : Int32) (l4 : Int32) (o5 : Option Value) : mX (mE mtab d) KX10_divisor 8 [some (.int l0), some (.int l1), some (.int l2), some (.int l3), some (.int l4), o5] [] h = (if l4 < 64 then (if l3 = 0 then mX (mE mtab d) KX10_divisor 23 [some (.int l0), some (.int l1), some (.int l2), some (.int l3), some (.int l4), o5] [] h else ck (¬ l3 = 0) (lt_ (l2 - l2 / l3 * l3) fun v3 => mX (mE mtab d) KX10_divisor 8 [some (.int l0), some (.int l1), some (.int l3), some (.int v3), some (.int (l4 + 1)), some (.int v3)] [] h)) else mX (mE mtab d) KX10_divisor 23 [some (.int l0), some (.int l1), some (.int l2), some (.int l3), some (.int l4), o5] [] h) := by
  refine mX_to 2 (k' := 10) (ls' := [some (.int l0), some (.int l1), some (.int l2), some (.int l3), some (.int l4), o5]) (st' := [.int 64, .int l4]) (h' := h) rfl ?_
  refine mX_br (t := 11) (f := 23) (ls' := [some (.int l0), some (.int l1), some (.int l2), some (.int l3), some (.int l4), o5]) (st' := []) (h' := h) rfl ?_ ?_
  · refine mX_to 1 (k' := 12) (ls' := [some (.int l0), some (.int l1), some (.int l2), some (.int l3), some (.int l4), o5]) (st' := [.int l3]) (h' := h) rfl ?_
    refine mX_br (t := 23) (f := 13) (ls' := [some (.int l0), some (.int l1), some (.int l2), some (.int l3), some (.int l4), o5]) (st' := []) (h' := h) rfl ?_ ?_
    · rfl
    · refine mX_to 2 (k' := 15) (ls' := [some (.int l0), some (.int l1), some (.int l2), some (.int l3), some (.int l4), o5]) (st' := [.int l3, .int l2]) (h' := h) rfl ?_
      refine mX_ck (k' := 16) (ls' := [some (.int l0), some (.int l1), some (.int l2), some (.int l3), some (.int l4), o5]) (st' := [.int (l2 - l2 / l3 * l3)]) (h' := h) rfl ?_
      refine lt_gen (X := fun v3 : Int32 => mX (mE mtab d) KX10_divisor 16 [some (.int l0), some (.int l1), some (.int l2), some (.int l3), some (.int l4), o5] [.int v3] h) fun v3 => ?_
      refine mX_to 7 (k' := 8) (ls' := [some (.int l0), some (.int l1), some (.int l3), some (.int v3), some (.int (l4 + 1)), some (.int v3)]) (st' := []) (h' := h) rfl ?_
      rfl
  · rfl
theorem D_X10_divisor_23 (d : Nat) (h : MH) (l0 : Int32) (l1 : Int32) (l2 : Int32) (l3 : Int32) (l4 : Int32) (o5 : Option Value) : mX (mE mtab d) KX10_divisor 23 [some (.int l0), some (.int l1), some (.int l2), some (.int l3), some (.int l4), o5] [] h = some (.int (jmax l2 1), h) := by
  refine mX_to 3 (k' := 26) (ls' := [some (.int l0), some (.int l1), some (.int l2), some (.int l3), some (.int l4), o5]) (st' := [.int (jmax l2 1)]) (h' := h) rfl ?_
  exact mX_reti rfl
theorem D_X10_divisor (d : Nat) (h : MH) (a0 : Int32) (a1 : Int32) : mE mtab (d + 1) 291 [.int a0, .int a1] h = lt_ (jabs a0) fun v1 => lt_ (jabs a1) fun v2 => mX (mE mtab d) KX10_divisor 8 [some (.int a0), some (.int a1), some (.int v1), some (.int v2), some (.int 0), none] [] h := by
  refine mE_eq (q := (yX10_divisor, cX10_divisor, 6, (some .int), KX10_divisor)) (C := KX10_divisor) (ls := [some (.int a0), some (.int a1), none, none, none, none]) rfl rfl rfl rfl ?_
  refine mX_to 2 (k' := 2) (ls' := [some (.int a0), some (.int a1), none, none, none, none]) (st' := [.int (jabs a0)]) (h' := h) rfl ?_
  refine lt_gen (X := fun v1 : Int32 => mX (mE mtab d) KX10_divisor 2 [some (.int a0), some (.int a1), none, none, none, none] [.int v1] h) fun v1 => ?_
  refine mX_to 3 (k' := 5) (ls' := [some (.int a0), some (.int a1), some (.int v1), none, none, none]) (st' := [.int (jabs a1)]) (h' := h) rfl ?_
  refine lt_gen (X := fun v2 : Int32 => mX (mE mtab d) KX10_divisor 5 [some (.int a0), some (.int a1), some (.int v1), none, none, none] [.int v2] h) fun v2 => ?_
  refine mX_to 3 (k' := 8) (ls' := [some (.int a0), some (.int a1), some (.int v1), some (.int v2), some (.int 0), none]) (st' := []) (h' := h) rfl ?_
  rfl
theorem D_X10_share_39 (d : Nat) (h : MH) (l0 : Nat) (l1 : Int32) (l2 : Int32) (l3 : Int32) (l4 : Int32) (l5 : Int32) (s0 : Int32) : mX (mE mtab d) KX10_share 39 [some (.ref l0), some (.int l1), some (.int l2), some (.int l3), some (.int l4), some (.int l5)] [.int s0] h = ck (¬ l5 = 0) (some (.int (s0 / l5), h)) := by
  refine mX_to 1 (k' := 40) (ls' := [some (.ref l0), some (.int l1), some (.int l2), some (.int l3), some (.int l4), some (.int l5)]) (st' := [.int l5, .int s0]) (h' := h) rfl ?_
  refine mX_ck (k' := 41) (ls' := [some (.ref l0), some (.int l1), some (.int l2), some (.int l3), some (.int l4), some (.int l5)]) (st' := [.int (s0 / l5)]) (h' := h) rfl ?_
  exact mX_reti rfl
theorem D_X10_share (d : Nat) (h : MH) (a0 : Nat) (a1 : Int32) (a2 : Int32) : mE mtab (d + 1) 292 [.ref a0, .int a1, .int a2] h = ck (kd h a0 = 11) (ck (kd h (gR h a0 0) = 1) (ck (kd h (gR h (gR h a0 0) 0) = 10) (cI (mE mtab d 17 [.ref (gR h (gR h a0 0) 0), .int a1] h) (fun x2 h1 => (if x2 = 0 then some (.int (-1000), h1) else ck (kd h1 a0 = 11) (ck (kd h1 a0 = 11) (ck (kd h1 (gR h1 a0 0) = 1) (ck (kd h1 (gR h1 a0 6) = 2) (cV (mE mtab d 278 [.ref (gR h1 a0 6), .ref (gR h1 (gR h1 a0 0) 0)] h1) (fun h3 => ck (kd h3 a0 = 11) (ck (kd h3 (gR h3 a0 0) = 1) (ck (kd h3 (gR h3 (gR h3 a0 0) 0) = 10) (ck ((kd h3 3 = 20 ∨ kd h3 3 = 24) ∧ ib (gI h3 (gR h3 (gR h3 a0 0) 0) 0) (ln h3 3)) (lt_ (gI h3 3 (ix (gI h3 (gR h3 (gR h3 a0 0) 0) 0))) fun v4 => ck (kd h3 a0 = 11) (ck (kd h3 a0 = 11) (ck (kd h3 (gR h3 a0 0) = 1) (ck (kd h3 (gR h3 (gR h3 a0 0) 0) = 10) (ck (kd h3 (gR h3 a0 6) = 2) (cI (mE mtab d 290 [.ref (gR h3 a0 6), .int a1, .int (gI h3 (gR h3 (gR h3 a0 0) 0) 0)] h3) (fun x6 h5 => cI (mE mtab d 291 [.int x6, .int v4] h5) (fun x8 h7 => (if a2 = 0 then mX (mE mtab d) KX10_share 39 [some (.ref a0), some (.int a1), some (.int a2), some (.int v4), some (.int x6), some (.int x8)] [.int x6] h7 else mX (mE mtab d) KX10_share 39 [some (.ref a0), some (.int a1), some (.int a2), some (.int v4), some (.int x6), some (.int x8)] [.int v4] h7)))))))))))))))))))))) := by
  refine mE_eq (q := (yX10_share, cX10_share, 6, (some .int), KX10_share)) (C := KX10_share) (ls := [some (.ref a0), some (.int a1), some (.int a2), none, none, none]) rfl rfl rfl rfl ?_
  refine mX_to 1 (k' := 1) (ls' := [some (.ref a0), some (.int a1), some (.int a2), none, none, none]) (st' := [.ref a0]) (h' := h) rfl ?_
  refine mX_ck (k' := 2) (ls' := [some (.ref a0), some (.int a1), some (.int a2), none, none, none]) (st' := [.ref (gR h a0 0)]) (h' := h) rfl ?_
  refine mX_ck (k' := 3) (ls' := [some (.ref a0), some (.int a1), some (.int a2), none, none, none]) (st' := [.ref (gR h (gR h a0 0) 0)]) (h' := h) rfl ?_
  refine mX_to 1 (k' := 4) (ls' := [some (.ref a0), some (.int a1), some (.int a2), none, none, none]) (st' := [.int a1, .ref (gR h (gR h a0 0) 0)]) (h' := h) rfl ?_
  refine mX_ckc (m := mcl (mE mtab d 17 [.ref (gR h (gR h a0 0) 0), .int a1] h) 1 5 [some (.ref a0), some (.int a1), some (.int a2), none, none, none] []) rfl ?_
  refine mk_cI ?_
  intro x2 h1
  refine mX_br (t := 6) (f := 8) (ls' := [some (.ref a0), some (.int a1), some (.int a2), none, none, none]) (st' := []) (h' := h1) rfl ?_ ?_
  · refine mX_to 1 (k' := 7) (ls' := [some (.ref a0), some (.int a1), some (.int a2), none, none, none]) (st' := [.int (-1000)]) (h' := h1) rfl ?_
    exact mX_reti rfl
  · refine mX_to 1 (k' := 9) (ls' := [some (.ref a0), some (.int a1), some (.int a2), none, none, none]) (st' := [.ref a0]) (h' := h1) rfl ?_
    refine mX_ck (k' := 10) (ls' := [some (.ref a0), some (.int a1), some (.int a2), none, none, none]) (st' := [.ref (gR h1 a0 6)]) (h' := h1) rfl ?_
    refine mX_to 1 (k' := 11) (ls' := [some (.ref a0), some (.int a1), some (.int a2), none, none, none]) (st' := [.ref a0, .ref (gR h1 a0 6)]) (h' := h1) rfl ?_
    refine mX_ck (k' := 12) (ls' := [some (.ref a0), some (.int a1), some (.int a2), none, none, none]) (st' := [.ref (gR h1 a0 0), .ref (gR h1 a0 6)]) (h' := h1) rfl ?_
    refine mX_ck (k' := 13) (ls' := [some (.ref a0), some (.int a1), some (.int a2), none, none, none]) (st' := [.ref (gR h1 (gR h1 a0 0) 0), .ref (gR h1 a0 6)]) (h' := h1) rfl ?_
    refine mX_ckc (m := mcl (mE mtab d 278 [.ref (gR h1 a0 6), .ref (gR h1 (gR h1 a0 0) 0)] h1) 0 14 [some (.ref a0), some (.int a1), some (.int a2), none, none, none] []) rfl ?_
    refine mk_cV ?_
    intro h3
    refine mX_to 2 (k' := 16) (ls' := [some (.ref a0), some (.int a1), some (.int a2), none, none, none]) (st' := [.ref a0, .ref 3]) (h' := h3) rfl ?_
    refine mX_ck (k' := 17) (ls' := [some (.ref a0), some (.int a1), some (.int a2), none, none, none]) (st' := [.ref (gR h3 a0 0), .ref 3]) (h' := h3) rfl ?_
    refine mX_ck (k' := 18) (ls' := [some (.ref a0), some (.int a1), some (.int a2), none, none, none]) (st' := [.ref (gR h3 (gR h3 a0 0) 0), .ref 3]) (h' := h3) rfl ?_
    refine mX_ck (k' := 19) (ls' := [some (.ref a0), some (.int a1), some (.int a2), none, none, none]) (st' := [.int (gI h3 (gR h3 (gR h3 a0 0) 0) 0), .ref 3]) (h' := h3) rfl ?_
    refine mX_ck (k' := 20) (ls' := [some (.ref a0), some (.int a1), some (.int a2), none, none, none]) (st' := [.int (gI h3 3 (ix (gI h3 (gR h3 (gR h3 a0 0) 0) 0)))]) (h' := h3) rfl ?_
    refine lt_gen (X := fun v4 : Int32 => mX (mE mtab d) KX10_share 20 [some (.ref a0), some (.int a1), some (.int a2), none, none, none] [.int v4] h3) fun v4 => ?_
    refine mX_to 2 (k' := 22) (ls' := [some (.ref a0), some (.int a1), some (.int a2), some (.int v4), none, none]) (st' := [.ref a0]) (h' := h3) rfl ?_
    refine mX_ck (k' := 23) (ls' := [some (.ref a0), some (.int a1), some (.int a2), some (.int v4), none, none]) (st' := [.ref (gR h3 a0 6)]) (h' := h3) rfl ?_
    refine mX_to 2 (k' := 25) (ls' := [some (.ref a0), some (.int a1), some (.int a2), some (.int v4), none, none]) (st' := [.ref a0, .int a1, .ref (gR h3 a0 6)]) (h' := h3) rfl ?_
    refine mX_ck (k' := 26) (ls' := [some (.ref a0), some (.int a1), some (.int a2), some (.int v4), none, none]) (st' := [.ref (gR h3 a0 0), .int a1, .ref (gR h3 a0 6)]) (h' := h3) rfl ?_
    refine mX_ck (k' := 27) (ls' := [some (.ref a0), some (.int a1), some (.int a2), some (.int v4), none, none]) (st' := [.ref (gR h3 (gR h3 a0 0) 0), .int a1, .ref (gR h3 a0 6)]) (h' := h3) rfl ?_
    refine mX_ck (k' := 28) (ls' := [some (.ref a0), some (.int a1), some (.int a2), some (.int v4), none, none]) (st' := [.int (gI h3 (gR h3 (gR h3 a0 0) 0) 0), .int a1, .ref (gR h3 a0 6)]) (h' := h3) rfl ?_
    refine mX_ckc (m := mcl (mE mtab d 290 [.ref (gR h3 a0 6), .int a1, .int (gI h3 (gR h3 (gR h3 a0 0) 0) 0)] h3) 1 29 [some (.ref a0), some (.int a1), some (.int a2), some (.int v4), none, none] []) rfl ?_
    refine mk_cI ?_
    intro x6 h5
    refine mX_to 3 (k' := 32) (ls' := [some (.ref a0), some (.int a1), some (.int a2), some (.int v4), some (.int x6), none]) (st' := [.int v4, .int x6]) (h' := h5) rfl ?_
    refine mX_cI (o := mE mtab d 291 [.int x6, .int v4] h5) (k' := 33) (ls' := [some (.ref a0), some (.int a1), some (.int a2), some (.int v4), some (.int x6), none]) (st' := []) rfl ?_
    intro x8 h7
    refine mX_to 2 (k' := 35) (ls' := [some (.ref a0), some (.int a1), some (.int a2), some (.int v4), some (.int x6), some (.int x8)]) (st' := [.int a2]) (h' := h7) rfl ?_
    refine mX_br (t := 38) (f := 36) (ls' := [some (.ref a0), some (.int a1), some (.int a2), some (.int v4), some (.int x6), some (.int x8)]) (st' := []) (h' := h7) rfl ?_ ?_
    · refine mX_to 1 (k' := 39) (ls' := [some (.ref a0), some (.int a1), some (.int a2), some (.int v4), some (.int x6), some (.int x8)]) (st' := [.int x6]) (h' := h7) rfl ?_
      rfl
    · refine mX_to 2 (k' := 39) (ls' := [some (.ref a0), some (.int a1), some (.int a2), some (.int v4), some (.int x6), some (.int x8)]) (st' := [.int v4]) (h' := h7) rfl ?_
      rfl
theorem D_X11_factorial_4 (d : Nat) (h : MH) (l0 : Int32) (l1 : Int32) (l2 : Int32) : mX (mE mtab d) KX11_factorial 4 [some (.int l0), some (.int l1), some (.int l2)] [] h = (if l2 ≤ l0 then lt_ (l1 * l2) fun v1 => mX (mE mtab d) KX11_factorial 4 [some (.int l0), some (.int v1), some (.int (l2 + 1))] [] h else some (.int l1, h)) := by
  refine mX_to 2 (k' := 6) (ls' := [some (.int l0), some (.int l1), some (.int l2)]) (st' := [.int l0, .int l2]) (h' := h) rfl ?_
  refine mX_br (t := 7) (f := 13) (ls' := [some (.int l0), some (.int l1), some (.int l2)]) (st' := []) (h' := h) rfl ?_ ?_
  · refine mX_to 3 (k' := 10) (ls' := [some (.int l0), some (.int l1), some (.int l2)]) (st' := [.int (l1 * l2)]) (h' := h) rfl ?_
    refine lt_gen (X := fun v1 : Int32 => mX (mE mtab d) KX11_factorial 10 [some (.int l0), some (.int l1), some (.int l2)] [.int v1] h) fun v1 => ?_
    refine mX_to 3 (k' := 4) (ls' := [some (.int l0), some (.int v1), some (.int (l2 + 1))]) (st' := []) (h' := h) rfl ?_
    rfl
  · refine mX_to 1 (k' := 14) (ls' := [some (.int l0), some (.int l1), some (.int l2)]) (st' := [.int l1]) (h' := h) rfl ?_
    exact mX_reti rfl
theorem D_X11_factorial (d : Nat) (h : MH) (a0 : Int32) : mE mtab (d + 1) 293 [.int a0] h = mX (mE mtab d) KX11_factorial 4 [some (.int a0), some (.int 1), some (.int 2)] [] h := by
  refine mE_eq (q := (yX11_factorial, cX11_factorial, 3, (some .int), KX11_factorial)) (C := KX11_factorial) (ls := [some (.int a0), none, none]) rfl rfl rfl rfl ?_
  refine mX_to 4 (k' := 4) (ls' := [some (.int a0), some (.int 1), some (.int 2)]) (st' := []) (h' := h) rfl ?_
  rfl
theorem D_X11_divisor_5 (d : Nat) (h : MH) (l0 : Int32) (l1 : Int32) (l2 : Int32) (l3 : Int32) (o4 : Option Value) : mX (mE mtab d) KX11_divisor 5 [some (.int l0), some (.int l1), some (.int l2), some (.int l3), o4] [] h = (if l3 = 0 then some (.int l2, h) else ck (¬ l3 = 0) (lt_ (l2 - l2 / l3 * l3) fun v3 => mX (mE mtab d) KX11_divisor 5 [some (.int l0), some (.int l1), some (.int l3), some (.int v3), some (.int v3)] [] h)) := by
  refine mX_to 1 (k' := 6) (ls' := [some (.int l0), some (.int l1), some (.int l2), some (.int l3), o4]) (st' := [.int l3]) (h' := h) rfl ?_
  refine mX_br (t := 16) (f := 7) (ls' := [some (.int l0), some (.int l1), some (.int l2), some (.int l3), o4]) (st' := []) (h' := h) rfl ?_ ?_
  · refine mX_to 1 (k' := 17) (ls' := [some (.int l0), some (.int l1), some (.int l2), some (.int l3), o4]) (st' := [.int l2]) (h' := h) rfl ?_
    exact mX_reti rfl
  · refine mX_to 2 (k' := 9) (ls' := [some (.int l0), some (.int l1), some (.int l2), some (.int l3), o4]) (st' := [.int l3, .int l2]) (h' := h) rfl ?_
    refine mX_ck (k' := 10) (ls' := [some (.int l0), some (.int l1), some (.int l2), some (.int l3), o4]) (st' := [.int (l2 - l2 / l3 * l3)]) (h' := h) rfl ?_
    refine lt_gen (X := fun v3 : Int32 => mX (mE mtab d) KX11_divisor 10 [some (.int l0), some (.int l1), some (.int l2), some (.int l3), o4] [.int v3] h) fun v3 => ?_
    refine mX_to 6 (k' := 5) (ls' := [some (.int l0), some (.int l1), some (.int l3), some (.int v3), some (.int v3)]) (st' := []) (h' := h) rfl ?_
    rfl
theorem D_X11_divisor (d : Nat) (h : MH) (a0 : Int32) (a1 : Int32) : mE mtab (d + 1) 294 [.int a0, .int a1] h = cI (mE mtab d 157 [.int a0] h) (fun x2 h1 => mX (mE mtab d) KX11_divisor 5 [some (.int a0), some (.int a1), some (.int x2), some (.int a1), none] [] h1) := by
  refine mE_eq (q := (yX11_divisor, cX11_divisor, 5, (some .int), KX11_divisor)) (C := KX11_divisor) (ls := [some (.int a0), some (.int a1), none, none, none]) rfl rfl rfl rfl ?_
  refine mX_to 1 (k' := 1) (ls' := [some (.int a0), some (.int a1), none, none, none]) (st' := [.int a0]) (h' := h) rfl ?_
  refine mX_cI (o := mE mtab d 157 [.int a0] h) (k' := 2) (ls' := [some (.int a0), some (.int a1), none, none, none]) (st' := []) rfl ?_
  intro x2 h1
  refine mX_to 3 (k' := 5) (ls' := [some (.int a0), some (.int a1), some (.int x2), some (.int a1), none]) (st' := []) (h' := h1) rfl ?_
  rfl
theorem D_X11_share_15 (d : Nat) (h : MH) (l0 : Nat) (l1 : Int32) (l2 : Int32) (l3 : Int32) (l4 : Int32) (l5 : Int32) : mX (mE mtab d) KX11_share 15 [some (.ref l0), some (.int l1), some (.int l2), some (.int l3), some (.int l4), some (.int l5)] [] h = ck (kd h l0 = 12) (cI (mE mtab d 154 [.ref l0] h) (fun x5 h4 => (if l5 ≤ x5 then cI (mE mtab d 108 [.int l5, .int l1] h4) (fun x7 h6 => (if x7 = 0 then ck (kd h6 l0 = 12) (cI (mE mtab d 155 [.ref l0, .int (l5 ||| (1 <<< (l1 &&& 31)))] h6) (fun x9 h8 => cI (mE mtab d 157 [.int x9] h8) (fun x11 h10 => ck (kd h10 l0 = 12) (cI (mE mtab d 155 [.ref l0, .int l5] h10) (fun x13 h12 => cI (mE mtab d 157 [.int x13] h12) (fun x15 h14 => cI (mE mtab d 268 [.int l5] h14) (fun x17 h16 => cI (mE mtab d 293 [.int x17] h16) (fun x19 h18 => cI (mE mtab d 268 [.int l5] h18) (fun x21 h20 => cI (mE mtab d 293 [.int ((l4 - 1) - x21)] h20) (fun x23 h22 => lt_ (l3 + (((x11 - x15) * x19) * x23)) fun v24 => mX (mE mtab d) KX11_share 51 [some (.ref l0), some (.int l1), some (.int l2), some (.int v24), some (.int l4), some (.int l5)] [] h22)))))))))) else mX (mE mtab d) KX11_share 51 [some (.ref l0), some (.int l1), some (.int l2), some (.int l3), some (.int l4), some (.int l5)] [] h6)) else (if l2 = 0 then mX (mE mtab d) KX11_share 59 [some (.ref l0), some (.int l1), some (.int l2), some (.int l3), some (.int l4), some (.int l5)] [.int l3] h4 else cI (mE mtab d 293 [.int l4] h4) (fun x26 h25 => mX (mE mtab d) KX11_share 59 [some (.ref l0), some (.int l1), some (.int l2), some (.int l3), some (.int l4), some (.int l5)] [.int x26] h25))))) := by
  refine mX_to 2 (k' := 17) (ls' := [some (.ref l0), some (.int l1), some (.int l2), some (.int l3), some (.int l4), some (.int l5)]) (st' := [.ref l0, .int l5]) (h' := h) rfl ?_
  refine mX_ckc (m := mcl (mE mtab d 154 [.ref l0] h) 1 18 [some (.ref l0), some (.int l1), some (.int l2), some (.int l3), some (.int l4), some (.int l5)] [.int l5]) rfl ?_
  refine mk_cI ?_
  intro x5 h4
  refine mX_br (t := 19) (f := 53) (ls' := [some (.ref l0), some (.int l1), some (.int l2), some (.int l3), some (.int l4), some (.int l5)]) (st' := []) (h' := h4) rfl ?_ ?_
  · refine mX_to 2 (k' := 21) (ls' := [some (.ref l0), some (.int l1), some (.int l2), some (.int l3), some (.int l4), some (.int l5)]) (st' := [.int l1, .int l5]) (h' := h4) rfl ?_
    refine mX_cI (o := mE mtab d 108 [.int l5, .int l1] h4) (k' := 22) (ls' := [some (.ref l0), some (.int l1), some (.int l2), some (.int l3), some (.int l4), some (.int l5)]) (st' := []) rfl ?_
    intro x7 h6
    refine mX_br (t := 23) (f := 51) (ls' := [some (.ref l0), some (.int l1), some (.int l2), some (.int l3), some (.int l4), some (.int l5)]) (st' := []) (h' := h6) rfl ?_ ?_
    · refine mX_to 7 (k' := 30) (ls' := [some (.ref l0), some (.int l1), some (.int l2), some (.int l3), some (.int l4), some (.int l5)]) (st' := [.int (l5 ||| (1 <<< (l1 &&& 31))), .ref l0, .int l3]) (h' := h6) rfl ?_
      refine mX_ckc (m := mcl (mE mtab d 155 [.ref l0, .int (l5 ||| (1 <<< (l1 &&& 31)))] h6) 1 31 [some (.ref l0), some (.int l1), some (.int l2), some (.int l3), some (.int l4), some (.int l5)] [.int l3]) rfl ?_
      refine mk_cI ?_
      intro x9 h8
      refine mX_cI (o := mE mtab d 157 [.int x9] h8) (k' := 32) (ls' := [some (.ref l0), some (.int l1), some (.int l2), some (.int l3), some (.int l4), some (.int l5)]) (st' := [.int l3]) rfl ?_
      intro x11 h10
      refine mX_to 2 (k' := 34) (ls' := [some (.ref l0), some (.int l1), some (.int l2), some (.int l3), some (.int l4), some (.int l5)]) (st' := [.int l5, .ref l0, .int x11, .int l3]) (h' := h10) rfl ?_
      refine mX_ckc (m := mcl (mE mtab d 155 [.ref l0, .int l5] h10) 1 35 [some (.ref l0), some (.int l1), some (.int l2), some (.int l3), some (.int l4), some (.int l5)] [.int x11, .int l3]) rfl ?_
      refine mk_cI ?_
      intro x13 h12
      refine mX_cI (o := mE mtab d 157 [.int x13] h12) (k' := 36) (ls' := [some (.ref l0), some (.int l1), some (.int l2), some (.int l3), some (.int l4), some (.int l5)]) (st' := [.int x11, .int l3]) rfl ?_
      intro x15 h14
      refine mX_to 2 (k' := 38) (ls' := [some (.ref l0), some (.int l1), some (.int l2), some (.int l3), some (.int l4), some (.int l5)]) (st' := [.int l5, .int (x11 - x15), .int l3]) (h' := h14) rfl ?_
      refine mX_cI (o := mE mtab d 268 [.int l5] h14) (k' := 39) (ls' := [some (.ref l0), some (.int l1), some (.int l2), some (.int l3), some (.int l4), some (.int l5)]) (st' := [.int (x11 - x15), .int l3]) rfl ?_
      intro x17 h16
      refine mX_cI (o := mE mtab d 293 [.int x17] h16) (k' := 40) (ls' := [some (.ref l0), some (.int l1), some (.int l2), some (.int l3), some (.int l4), some (.int l5)]) (st' := [.int (x11 - x15), .int l3]) rfl ?_
      intro x19 h18
      refine mX_to 5 (k' := 45) (ls' := [some (.ref l0), some (.int l1), some (.int l2), some (.int l3), some (.int l4), some (.int l5)]) (st' := [.int l5, .int (l4 - 1), .int ((x11 - x15) * x19), .int l3]) (h' := h18) rfl ?_
      refine mX_cI (o := mE mtab d 268 [.int l5] h18) (k' := 46) (ls' := [some (.ref l0), some (.int l1), some (.int l2), some (.int l3), some (.int l4), some (.int l5)]) (st' := [.int (l4 - 1), .int ((x11 - x15) * x19), .int l3]) rfl ?_
      intro x21 h20
      refine mX_to 1 (k' := 47) (ls' := [some (.ref l0), some (.int l1), some (.int l2), some (.int l3), some (.int l4), some (.int l5)]) (st' := [.int ((l4 - 1) - x21), .int ((x11 - x15) * x19), .int l3]) (h' := h20) rfl ?_
      refine mX_cI (o := mE mtab d 293 [.int ((l4 - 1) - x21)] h20) (k' := 48) (ls' := [some (.ref l0), some (.int l1), some (.int l2), some (.int l3), some (.int l4), some (.int l5)]) (st' := [.int ((x11 - x15) * x19), .int l3]) rfl ?_
      intro x23 h22
      refine mX_to 2 (k' := 50) (ls' := [some (.ref l0), some (.int l1), some (.int l2), some (.int l3), some (.int l4), some (.int l5)]) (st' := [.int (l3 + (((x11 - x15) * x19) * x23))]) (h' := h22) rfl ?_
      refine lt_gen (X := fun v24 : Int32 => mX (mE mtab d) KX11_share 50 [some (.ref l0), some (.int l1), some (.int l2), some (.int l3), some (.int l4), some (.int l5)] [.int v24] h22) fun v24 => ?_
      refine mX_to 1 (k' := 51) (ls' := [some (.ref l0), some (.int l1), some (.int l2), some (.int v24), some (.int l4), some (.int l5)]) (st' := []) (h' := h22) rfl ?_
      rfl
    · rfl
  · refine mX_to 1 (k' := 54) (ls' := [some (.ref l0), some (.int l1), some (.int l2), some (.int l3), some (.int l4), some (.int l5)]) (st' := [.int l2]) (h' := h4) rfl ?_
    refine mX_br (t := 58) (f := 55) (ls' := [some (.ref l0), some (.int l1), some (.int l2), some (.int l3), some (.int l4), some (.int l5)]) (st' := []) (h' := h4) rfl ?_ ?_
    · refine mX_to 1 (k' := 59) (ls' := [some (.ref l0), some (.int l1), some (.int l2), some (.int l3), some (.int l4), some (.int l5)]) (st' := [.int l3]) (h' := h4) rfl ?_
      rfl
    · refine mX_to 1 (k' := 56) (ls' := [some (.ref l0), some (.int l1), some (.int l2), some (.int l3), some (.int l4), some (.int l5)]) (st' := [.int l4]) (h' := h4) rfl ?_
      refine mX_cI (o := mE mtab d 293 [.int l4] h4) (k' := 57) (ls' := [some (.ref l0), some (.int l1), some (.int l2), some (.int l3), some (.int l4), some (.int l5)]) (st' := []) rfl ?_
      intro x26 h25
      refine mX_to 1 (k' := 59) (ls' := [some (.ref l0), some (.int l1), some (.int l2), some (.int l3), some (.int l4), some (.int l5)]) (st' := [.int x26]) (h' := h25) rfl ?_
      rfl
theorem D_X11_share_51 (d : Nat) (h : MH) (l0 : Nat) (l1 : Int32) (l2 : Int32) (l3 : Int32) (l4 : Int32) (l5 : Int32) : mX (mE mtab d) KX11_share 51 [some (.ref l0), some (.int l1), some (.int l2), some (.int l3), some (.int l4), some (.int l5)] [] h = mX (mE mtab d) KX11_share 15 [some (.ref l0), some (.int l1), some (.int l2), some (.int l3), some (.int l4), some (.int (l5 + 1))] [] h := by
  refine mX_to 2 (k' := 15) (ls' := [some (.ref l0), some (.int l1), some (.int l2), some (.int l3), some (.int l4), some (.int (l5 + 1))]) (st' := []) (h' := h) rfl ?_
  rfl
theorem D_X11_share_59 (d : Nat) (h : MH) (l0 : Nat) (l1 : Int32) (l2 : Int32) (l3 : Int32) (l4 : Int32) (l5 : Int32) (s0 : Int32) : mX (mE mtab d) KX11_share 59 [some (.ref l0), some (.int l1), some (.int l2), some (.int l3), some (.int l4), some (.int l5)] [.int s0] h = cI (mE mtab d 293 [.int l4] h) (fun x29 h28 => cI (mE mtab d 294 [.int l3, .int x29] h28) (fun x31 h30 => ck (¬ x31 = 0) (some (.int (s0 / x31), h30)))) := by
  refine mX_to 2 (k' := 61) (ls' := [some (.ref l0), some (.int l1), some (.int l2), some (.int l3), some (.int l4), some (.int l5)]) (st' := [.int l4, .int l3, .int s0]) (h' := h) rfl ?_
  refine mX_cI (o := mE mtab d 293 [.int l4] h) (k' := 62) (ls' := [some (.ref l0), some (.int l1), some (.int l2), some (.int l3), some (.int l4), some (.int l5)]) (st' := [.int l3, .int s0]) rfl ?_
  intro x29 h28
  refine mX_cI (o := mE mtab d 294 [.int l3, .int x29] h28) (k' := 63) (ls' := [some (.ref l0), some (.int l1), some (.int l2), some (.int l3), some (.int l4), some (.int l5)]) (st' := [.int s0]) rfl ?_
  intro x31 h30
  refine mX_ck (k' := 64) (ls' := [some (.ref l0), some (.int l1), some (.int l2), some (.int l3), some (.int l4), some (.int l5)]) (st' := [.int (s0 / x31)]) (h' := h30) rfl ?_
  exact mX_reti rfl
theorem D_X11_share (d : Nat) (h : MH) (a0 : Nat) (a1 : Int32) (a2 : Int32) : mE mtab (d + 1) 295 [.ref a0, .int a1, .int a2] h = ck (kd h a0 = 12) (cI (mE mtab d 20 [.ref a0, .int a1] h) (fun x2 h1 => (if x2 = 0 then some (.int (-1000), h1) else ck (kd h1 a0 = 12) (ck ((kd h1 (gR h1 a0 0) = 20 ∨ kd h1 (gR h1 a0 0) = 24) ∧ ib (0 : Int32) (ln h1 (gR h1 a0 0))) (lt_ (gI h1 (gR h1 a0 0) (ix (0 : Int32))) fun v3 => mX (mE mtab d) KX11_share 15 [some (.ref a0), some (.int a1), some (.int a2), some (.int 0), some (.int v3), some (.int 0)] [] h1))))) := by
  refine mE_eq (q := (yX11_share, cX11_share, 6, (some .int), KX11_share)) (C := KX11_share) (ls := [some (.ref a0), some (.int a1), some (.int a2), none, none, none]) rfl rfl rfl rfl ?_
  refine mX_to 2 (k' := 2) (ls' := [some (.ref a0), some (.int a1), some (.int a2), none, none, none]) (st' := [.int a1, .ref a0]) (h' := h) rfl ?_
  refine mX_ckc (m := mcl (mE mtab d 20 [.ref a0, .int a1] h) 1 3 [some (.ref a0), some (.int a1), some (.int a2), none, none, none] []) rfl ?_
  refine mk_cI ?_
  intro x2 h1
  refine mX_br (t := 4) (f := 6) (ls' := [some (.ref a0), some (.int a1), some (.int a2), none, none, none]) (st' := []) (h' := h1) rfl ?_ ?_
  · refine mX_to 1 (k' := 5) (ls' := [some (.ref a0), some (.int a1), some (.int a2), none, none, none]) (st' := [.int (-1000)]) (h' := h1) rfl ?_
    exact mX_reti rfl
  · refine mX_to 3 (k' := 9) (ls' := [some (.ref a0), some (.int a1), some (.int a2), some (.int 0), none, none]) (st' := [.ref a0]) (h' := h1) rfl ?_
    refine mX_ck (k' := 10) (ls' := [some (.ref a0), some (.int a1), some (.int a2), some (.int 0), none, none]) (st' := [.ref (gR h1 a0 0)]) (h' := h1) rfl ?_
    refine mX_to 1 (k' := 11) (ls' := [some (.ref a0), some (.int a1), some (.int a2), some (.int 0), none, none]) (st' := [.int 0, .ref (gR h1 a0 0)]) (h' := h1) rfl ?_
    refine mX_ck (k' := 12) (ls' := [some (.ref a0), some (.int a1), some (.int a2), some (.int 0), none, none]) (st' := [.int (gI h1 (gR h1 a0 0) (ix (0 : Int32)))]) (h' := h1) rfl ?_
    refine lt_gen (X := fun v3 : Int32 => mX (mE mtab d) KX11_share 12 [some (.ref a0), some (.int a1), some (.int a2), some (.int 0), none, none] [.int v3] h1) fun v3 => ?_
    refine mX_to 3 (k' := 15) (ls' := [some (.ref a0), some (.int a1), some (.int a2), some (.int 0), some (.int v3), some (.int 0)]) (st' := []) (h' := h1) rfl ?_
    rfl
theorem D_X10_armsOf_4 (d : Nat) (h : MH) (l0 : Int32) (l1 : Int32) (l2 : Int32) : mX (mE mtab d) KX10_armsOf 4 [some (.int l0), some (.int l1), some (.int l2)] [] h = (if l2 < 9 then cI (mE mtab d 257 [.int l0, .int l2] h) (fun x2 h1 => (if x2 = 0 then mX (mE mtab d) KX10_armsOf 17 [some (.int l0), some (.int l1), some (.int l2)] [] h1 else lt_ (l1 + (l2 - 4)) fun v3 => mX (mE mtab d) KX10_armsOf 17 [some (.int l0), some (.int v3), some (.int l2)] [] h1)) else some (.int l1, h)) := by
  refine mX_to 2 (k' := 6) (ls' := [some (.int l0), some (.int l1), some (.int l2)]) (st' := [.int 9, .int l2]) (h' := h) rfl ?_
  refine mX_br (t := 7) (f := 19) (ls' := [some (.int l0), some (.int l1), some (.int l2)]) (st' := []) (h' := h) rfl ?_ ?_
  · refine mX_to 2 (k' := 9) (ls' := [some (.int l0), some (.int l1), some (.int l2)]) (st' := [.int l2, .int l0]) (h' := h) rfl ?_
    refine mX_cI (o := mE mtab d 257 [.int l0, .int l2] h) (k' := 10) (ls' := [some (.int l0), some (.int l1), some (.int l2)]) (st' := []) rfl ?_
    intro x2 h1
    refine mX_br (t := 17) (f := 11) (ls' := [some (.int l0), some (.int l1), some (.int l2)]) (st' := []) (h' := h1) rfl ?_ ?_
    · rfl
    · refine mX_to 5 (k' := 16) (ls' := [some (.int l0), some (.int l1), some (.int l2)]) (st' := [.int (l1 + (l2 - 4))]) (h' := h1) rfl ?_
      refine lt_gen (X := fun v3 : Int32 => mX (mE mtab d) KX10_armsOf 16 [some (.int l0), some (.int l1), some (.int l2)] [.int v3] h1) fun v3 => ?_
      refine mX_to 1 (k' := 17) (ls' := [some (.int l0), some (.int v3), some (.int l2)]) (st' := []) (h' := h1) rfl ?_
      rfl
  · refine mX_to 1 (k' := 20) (ls' := [some (.int l0), some (.int l1), some (.int l2)]) (st' := [.int l1]) (h' := h) rfl ?_
    exact mX_reti rfl
theorem D_X10_armsOf_17 (d : Nat) (h : MH) (l0 : Int32) (l1 : Int32) (l2 : Int32) : mX (mE mtab d) KX10_armsOf 17 [some (.int l0), some (.int l1), some (.int l2)] [] h = mX (mE mtab d) KX10_armsOf 4 [some (.int l0), some (.int l1), some (.int (l2 + 1))] [] h := by
  refine mX_to 2 (k' := 4) (ls' := [some (.int l0), some (.int l1), some (.int (l2 + 1))]) (st' := []) (h' := h) rfl ?_
  rfl
theorem D_X10_armsOf (d : Nat) (h : MH) (a0 : Int32) : mE mtab (d + 1) 296 [.int a0] h = mX (mE mtab d) KX10_armsOf 4 [some (.int a0), some (.int 0), some (.int 0)] [] h := by
  refine mE_eq (q := (yX10_armsOf, cX10_armsOf, 3, (some .int), KX10_armsOf)) (C := KX10_armsOf) (ls := [some (.int a0), none, none]) rfl rfl rfl rfl ?_
  refine mX_to 4 (k' := 4) (ls' := [some (.int a0), some (.int 0), some (.int 0)]) (st' := []) (h' := h) rfl ?_
  rfl
