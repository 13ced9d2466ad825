/-! EQUATIONS OF THE METHODS (written by wip/gen/dgen.py) -/
theorem D_X11_areThere_6 (d : Nat) (h : MH) (l0 : Nat) (l1 : Int32) (l2 : Int32) (l3 : Int32) (l4 : Int32) : mX (mE mtab d) KX11_areThere 6 [some (.ref l0), some (.int l1), some (.int l2), some (.int l3), some (.int l4)] [] h = ck (kd h l0 = 12) (ck ((kd h (gR h l0 0) = 20 ∨ kd h (gR h l0 0) = 24) ∧ ib (0 : Int32) (ln h (gR h l0 0))) ((if l4 < (gI h (gR h l0 0) (ix (0 : Int32))) then ck (kd h l0 = 12) (ck ((kd h (gR h l0 0) = 20 ∨ kd h (gR h l0 0) = 24) ∧ ib (30 + l4) (ln h (gR h l0 0))) ((if (gI h (gR h l0 0) (ix (30 + l4))) = (-1) then mX (mE mtab d) KX11_areThere 31 [some (.ref l0), some (.int l1), some (.int l2), some (.int l3), some (.int l4)] [.int l3] h else ck (kd h l0 = 12) (ck ((kd h (gR h l0 0) = 20 ∨ kd h (gR h l0 0) = 24) ∧ ib (30 + l4) (ln h (gR h l0 0))) ((if (gI h (gR h l0 0) (ix (30 + l4))) = (l2 - l2 / 9 * 9) then mX (mE mtab d) KX11_areThere 31 [some (.ref l0), some (.int l1), some (.int l2), some (.int l3), some (.int l4)] [.int l3] h else mX (mE mtab d) KX11_areThere 34 [some (.ref l0), some (.int l1), some (.int l2), some (.int l3), some (.int l4)] [.int 0, .int l3] h)))))) else ck (mrt 1 l3) (some (.int l3, h))))) := by
  refine mX_to 2 (k' := 8) (ls' := [some (.ref l0), some (.int l1), some (.int l2), some (.int l3), some (.int l4)]) (st' := [.ref l0, .int l4]) (h' := h) rfl ?_
  refine mX_ck (k' := 9) (ls' := [some (.ref l0), some (.int l1), some (.int l2), some (.int l3), some (.int l4)]) (st' := [.ref (gR h l0 0), .int l4]) (h' := h) rfl ?_
  refine mX_to 1 (k' := 10) (ls' := [some (.ref l0), some (.int l1), some (.int l2), some (.int l3), some (.int l4)]) (st' := [.int 0, .ref (gR h l0 0), .int l4]) (h' := h) rfl ?_
  refine mX_ck (k' := 11) (ls' := [some (.ref l0), some (.int l1), some (.int l2), some (.int l3), some (.int l4)]) (st' := [.int (gI h (gR h l0 0) (ix (0 : Int32))), .int l4]) (h' := h) rfl ?_
  refine mX_br (t := 12) (f := 42) (ls' := [some (.ref l0), some (.int l1), some (.int l2), some (.int l3), some (.int l4)]) (st' := []) (h' := h) rfl ?_ ?_
  · refine mX_to 2 (k' := 14) (ls' := [some (.ref l0), some (.int l1), some (.int l2), some (.int l3), some (.int l4)]) (st' := [.ref l0, .int l3]) (h' := h) rfl ?_
    refine mX_ck (k' := 15) (ls' := [some (.ref l0), some (.int l1), some (.int l2), some (.int l3), some (.int l4)]) (st' := [.ref (gR h l0 0), .int l3]) (h' := h) rfl ?_
    refine mX_to 3 (k' := 18) (ls' := [some (.ref l0), some (.int l1), some (.int l2), some (.int l3), some (.int l4)]) (st' := [.int (30 + l4), .ref (gR h l0 0), .int l3]) (h' := h) rfl ?_
    refine mX_ck (k' := 19) (ls' := [some (.ref l0), some (.int l1), some (.int l2), some (.int l3), some (.int l4)]) (st' := [.int (gI h (gR h l0 0) (ix (30 + l4))), .int l3]) (h' := h) rfl ?_
    refine mX_to 1 (k' := 20) (ls' := [some (.ref l0), some (.int l1), some (.int l2), some (.int l3), some (.int l4)]) (st' := [.int (-1), .int (gI h (gR h l0 0) (ix (30 + l4))), .int l3]) (h' := h) rfl ?_
    refine mX_br (t := 31) (f := 21) (ls' := [some (.ref l0), some (.int l1), some (.int l2), some (.int l3), some (.int l4)]) (st' := [.int l3]) (h' := h) rfl ?_ ?_
    · rfl
    · refine mX_to 1 (k' := 22) (ls' := [some (.ref l0), some (.int l1), some (.int l2), some (.int l3), some (.int l4)]) (st' := [.ref l0, .int l3]) (h' := h) rfl ?_
      refine mX_ck (k' := 23) (ls' := [some (.ref l0), some (.int l1), some (.int l2), some (.int l3), some (.int l4)]) (st' := [.ref (gR h l0 0), .int l3]) (h' := h) rfl ?_
      refine mX_to 3 (k' := 26) (ls' := [some (.ref l0), some (.int l1), some (.int l2), some (.int l3), some (.int l4)]) (st' := [.int (30 + l4), .ref (gR h l0 0), .int l3]) (h' := h) rfl ?_
      refine mX_ck (k' := 27) (ls' := [some (.ref l0), some (.int l1), some (.int l2), some (.int l3), some (.int l4)]) (st' := [.int (gI h (gR h l0 0) (ix (30 + l4))), .int l3]) (h' := h) rfl ?_
      refine mX_to 2 (k' := 29) (ls' := [some (.ref l0), some (.int l1), some (.int l2), some (.int l3), some (.int l4)]) (st' := [.int 9, .int l2, .int (gI h (gR h l0 0) (ix (30 + l4))), .int l3]) (h' := h) rfl ?_
      refine mX_ckt (c := ¬ (9 : Int32) = 0) (k' := 30) (ls' := [some (.ref l0), some (.int l1), some (.int l2), some (.int l3), some (.int l4)]) (st' := [.int (l2 - l2 / 9 * 9), .int (gI h (gR h l0 0) (ix (30 + l4))), .int l3]) (h' := h) (by decide) rfl ?_
      refine mX_br (t := 31) (f := 33) (ls' := [some (.ref l0), some (.int l1), some (.int l2), some (.int l3), some (.int l4)]) (st' := [.int l3]) (h' := h) rfl ?_ ?_
      · rfl
      · refine mX_to 1 (k' := 34) (ls' := [some (.ref l0), some (.int l1), some (.int l2), some (.int l3), some (.int l4)]) (st' := [.int 0, .int l3]) (h' := h) rfl ?_
        rfl
  · refine mX_to 1 (k' := 43) (ls' := [some (.ref l0), some (.int l1), some (.int l2), some (.int l3), some (.int l4)]) (st' := [.int l3]) (h' := h) rfl ?_
    exact mX_retc rfl
theorem D_X11_areThere_31 (d : Nat) (h : MH) (l0 : Nat) (l1 : Int32) (l2 : Int32) (l3 : Int32) (l4 : Int32) (s0 : Int32) : mX (mE mtab d) KX11_areThere 31 [some (.ref l0), some (.int l1), some (.int l2), some (.int l3), some (.int l4)] [.int s0] h = mX (mE mtab d) KX11_areThere 34 [some (.ref l0), some (.int l1), some (.int l2), some (.int l3), some (.int l4)] [.int 1, .int s0] h := by
  refine mX_to 2 (k' := 34) (ls' := [some (.ref l0), some (.int l1), some (.int l2), some (.int l3), some (.int l4)]) (st' := [.int 1, .int s0]) (h' := h) rfl ?_
  rfl
theorem D_X11_areThere_34 (d : Nat) (h : MH) (l0 : Nat) (l1 : Int32) (l2 : Int32) (l3 : Int32) (l4 : Int32) (s0 : Int32) (s1 : Int32) : mX (mE mtab d) KX11_areThere 34 [some (.ref l0), some (.int l1), some (.int l2), some (.int l3), some (.int l4)] [.int s0, .int s1] h = lt_ (s1 &&& s0) fun v1 => lt_ (l2 / 9) fun v2 => mX (mE mtab d) KX11_areThere 6 [some (.ref l0), some (.int l1), some (.int v2), some (.int v1), some (.int (l4 + 1))] [] h := by
  refine mX_to 1 (k' := 35) (ls' := [some (.ref l0), some (.int l1), some (.int l2), some (.int l3), some (.int l4)]) (st' := [.int (s1 &&& s0)]) (h' := h) rfl ?_
  refine lt_gen (X := fun v1 : Int32 => mX (mE mtab d) KX11_areThere 35 [some (.ref l0), some (.int l1), some (.int l2), some (.int l3), some (.int l4)] [.int v1] h) fun v1 => ?_
  refine mX_to 3 (k' := 38) (ls' := [some (.ref l0), some (.int l1), some (.int l2), some (.int v1), some (.int l4)]) (st' := [.int 9, .int l2]) (h' := h) rfl ?_
  refine mX_ckt (c := ¬ (9 : Int32) = 0) (k' := 39) (ls' := [some (.ref l0), some (.int l1), some (.int l2), some (.int v1), some (.int l4)]) (st' := [.int (l2 / 9)]) (h' := h) (by decide) rfl ?_
  refine lt_gen (X := fun v2 : Int32 => mX (mE mtab d) KX11_areThere 39 [some (.ref l0), some (.int l1), some (.int l2), some (.int v1), some (.int l4)] [.int v2] h) fun v2 => ?_
  refine mX_to 3 (k' := 6) (ls' := [some (.ref l0), some (.int l1), some (.int v2), some (.int v1), some (.int (l4 + 1))]) (st' := []) (h' := h) rfl ?_
  rfl
theorem D_X11_areThere (d : Nat) (h : MH) (a0 : Nat) (a1 : Int32) : mE mtab (d + 1) 247 [.ref a0, .int a1] h = mX (mE mtab d) KX11_areThere 6 [some (.ref a0), some (.int a1), some (.int a1), some (.int 1), some (.int 0)] [] h := by
  refine mE_eq (q := (yX11_areThere, cX11_areThere, 5, (some .boolean), KX11_areThere)) (C := KX11_areThere) (ls := [some (.ref a0), some (.int a1), none, none, none]) rfl rfl rfl rfl ?_
  refine mX_to 6 (k' := 6) (ls' := [some (.ref a0), some (.int a1), some (.int a1), some (.int 1), some (.int 0)]) (st' := []) (h' := h) rfl ?_
  rfl
theorem D_X11_top (d : Nat) (h : MH) (a0 : Int32) : mE mtab (d + 1) 248 [.int a0] h = (if a0 = 0 then some (.int 10, h) else some (.int 58, h)) := by
  refine mE_eq (q := (yX11_top, cX11_top, 1, (some .int), KX11_top)) (C := KX11_top) (ls := [some (.int a0)]) rfl rfl rfl rfl ?_
  refine mX_to 1 (k' := 1) (ls' := [some (.int a0)]) (st' := [.int a0]) (h' := h) rfl ?_
  refine mX_br (t := 4) (f := 2) (ls' := [some (.int a0)]) (st' := []) (h' := h) rfl ?_ ?_
  · refine mX_to 1 (k' := 5) (ls' := [some (.int a0)]) (st' := [.int 10]) (h' := h) rfl ?_
    exact mX_reti rfl
  · refine mX_to 2 (k' := 5) (ls' := [some (.int a0)]) (st' := [.int 58]) (h' := h) rfl ?_
    exact mX_reti rfl
theorem D_X11_stepOf (d : Nat) (h : MH) (a0 : Nat) (a1 : Int32) (a2 : Int32) (a3 : Int32) : mE mtab (d + 1) 249 [.ref a0, .int a1, .int a2, .int a3] h = cI (mE mtab d 244 [.int a2] h) (fun x2 h1 => ck (¬ x2 = 0) (cI (mE mtab d 151 [.int a3] h1) (fun x4 h3 => lt_ (((a1 / x2) - (a1 / x2) / 9 * 9) + x4) fun v5 => ck (kd h3 a0 = 12) (cI (mE mtab d 20 [.ref a0, .int a2] h3) (fun x7 h6 => (if x7 = 0 then some (.int 0, h6) else cI (mE mtab d 15 [.int v5] h6) (fun x9 h8 => (if x9 = 0 then some (.int 0, h8) else cI (mE mtab d 151 [.int a3] h8) (fun x11 h10 => cI (mE mtab d 244 [.int a2] h10) (fun x13 h12 => some (.int (x11 * x13), h12))))))))))) := by
  refine mE_eq (q := (yX11_stepOf, cX11_stepOf, 5, (some .int), KX11_stepOf)) (C := KX11_stepOf) (ls := [some (.ref a0), some (.int a1), some (.int a2), some (.int a3), none]) rfl rfl rfl rfl ?_
  refine mX_to 2 (k' := 2) (ls' := [some (.ref a0), some (.int a1), some (.int a2), some (.int a3), none]) (st' := [.int a2, .int a1]) (h' := h) rfl ?_
  refine mX_cI (o := mE mtab d 244 [.int a2] h) (k' := 3) (ls' := [some (.ref a0), some (.int a1), some (.int a2), some (.int a3), none]) (st' := [.int a1]) rfl ?_
  intro x2 h1
  refine mX_ck (k' := 4) (ls' := [some (.ref a0), some (.int a1), some (.int a2), some (.int a3), none]) (st' := [.int (a1 / x2)]) (h' := h1) rfl ?_
  refine mX_to 1 (k' := 5) (ls' := [some (.ref a0), some (.int a1), some (.int a2), some (.int a3), none]) (st' := [.int 9, .int (a1 / x2)]) (h' := h1) rfl ?_
  refine mX_ckt (c := ¬ (9 : Int32) = 0) (k' := 6) (ls' := [some (.ref a0), some (.int a1), some (.int a2), some (.int a3), none]) (st' := [.int ((a1 / x2) - (a1 / x2) / 9 * 9)]) (h' := h1) (by decide) rfl ?_
  refine mX_to 1 (k' := 7) (ls' := [some (.ref a0), some (.int a1), some (.int a2), some (.int a3), none]) (st' := [.int a3, .int ((a1 / x2) - (a1 / x2) / 9 * 9)]) (h' := h1) rfl ?_
  refine mX_cI (o := mE mtab d 151 [.int a3] h1) (k' := 8) (ls' := [some (.ref a0), some (.int a1), some (.int a2), some (.int a3), none]) (st' := [.int ((a1 / x2) - (a1 / x2) / 9 * 9)]) rfl ?_
  intro x4 h3
  refine mX_to 1 (k' := 9) (ls' := [some (.ref a0), some (.int a1), some (.int a2), some (.int a3), none]) (st' := [.int (((a1 / x2) - (a1 / x2) / 9 * 9) + x4)]) (h' := h3) rfl ?_
  refine lt_gen (X := fun v5 : Int32 => mX (mE mtab d) KX11_stepOf 9 [some (.ref a0), some (.int a1), some (.int a2), some (.int a3), none] [.int v5] h3) fun v5 => ?_
  refine mX_to 3 (k' := 12) (ls' := [some (.ref a0), some (.int a1), some (.int a2), some (.int a3), some (.int v5)]) (st' := [.int a2, .ref a0]) (h' := h3) rfl ?_
  refine mX_ckc (m := mcl (mE mtab d 20 [.ref a0, .int a2] h3) 1 13 [some (.ref a0), some (.int a1), some (.int a2), some (.int a3), some (.int v5)] []) rfl ?_
  refine mk_cI ?_
  intro x7 h6
  refine mX_br (t := 23) (f := 14) (ls' := [some (.ref a0), some (.int a1), some (.int a2), some (.int a3), some (.int v5)]) (st' := []) (h' := h6) rfl ?_ ?_
  · refine mX_to 1 (k' := 24) (ls' := [some (.ref a0), some (.int a1), some (.int a2), some (.int a3), some (.int v5)]) (st' := [.int 0]) (h' := h6) rfl ?_
    exact mX_reti rfl
  · refine mX_to 1 (k' := 15) (ls' := [some (.ref a0), some (.int a1), some (.int a2), some (.int a3), some (.int v5)]) (st' := [.int v5]) (h' := h6) rfl ?_
    refine mX_cI (o := mE mtab d 15 [.int v5] h6) (k' := 16) (ls' := [some (.ref a0), some (.int a1), some (.int a2), some (.int a3), some (.int v5)]) (st' := []) rfl ?_
    intro x9 h8
    refine mX_br (t := 23) (f := 17) (ls' := [some (.ref a0), some (.int a1), some (.int a2), some (.int a3), some (.int v5)]) (st' := []) (h' := h8) rfl ?_ ?_
    · refine mX_to 1 (k' := 24) (ls' := [some (.ref a0), some (.int a1), some (.int a2), some (.int a3), some (.int v5)]) (st' := [.int 0]) (h' := h8) rfl ?_
      exact mX_reti rfl
    · refine mX_to 1 (k' := 18) (ls' := [some (.ref a0), some (.int a1), some (.int a2), some (.int a3), some (.int v5)]) (st' := [.int a3]) (h' := h8) rfl ?_
      refine mX_cI (o := mE mtab d 151 [.int a3] h8) (k' := 19) (ls' := [some (.ref a0), some (.int a1), some (.int a2), some (.int a3), some (.int v5)]) (st' := []) rfl ?_
      intro x11 h10
      refine mX_to 1 (k' := 20) (ls' := [some (.ref a0), some (.int a1), some (.int a2), some (.int a3), some (.int v5)]) (st' := [.int a2, .int x11]) (h' := h10) rfl ?_
      refine mX_cI (o := mE mtab d 244 [.int a2] h10) (k' := 21) (ls' := [some (.ref a0), some (.int a1), some (.int a2), some (.int a3), some (.int v5)]) (st' := [.int x11]) rfl ?_
      intro x13 h12
      refine mX_to 2 (k' := 24) (ls' := [some (.ref a0), some (.int a1), some (.int a2), some (.int a3), some (.int v5)]) (st' := [.int (x11 * x13)]) (h' := h12) rfl ?_
      exact mX_reti rfl
theorem D_X11_gone_19 (d : Nat) (h : MH) (l0 : Nat) (l1 : Int32) (l2 : Int32) (s0 : Int32) (s1 : Int32) (s2 : Int32) (s3 : Nat) : mX (mE mtab d) KX11_gone 19 [some (.ref l0), some (.int l1), some (.int l2), none, none, none, none, none] [.int s0, .int s1, .int s2, .ref s3] h = ck (kd h s3 = 12) (cI (mE mtab d 249 [.ref s3, .int s2, .int s1, .int s0] h) (fun x5 h4 => mX (mE mtab d) KX11_gone 22 [some (.ref l0), some (.int l1), some (.int l2), none, none, none, none, none] [.int x5] h4)) := by
  refine mX_ckc (m := mcl (mE mtab d 249 [.ref s3, .int s2, .int s1, .int s0] h) 1 20 [some (.ref l0), some (.int l1), some (.int l2), none, none, none, none, none] []) rfl ?_
  refine mk_cI ?_
  intro x5 h4
  refine mX_to 1 (k' := 22) (ls' := [some (.ref l0), some (.int l1), some (.int l2), none, none, none, none, none]) (st' := [.int x5]) (h' := h4) rfl ?_
  rfl
theorem D_X11_gone_22 (d : Nat) (h : MH) (l0 : Nat) (l1 : Int32) (l2 : Int32) (s0 : Int32) : mX (mE mtab d) KX11_gone 22 [some (.ref l0), some (.int l1), some (.int l2), none, none, none, none, none] [.int s0] h = (if s0 = 0 then some (.int (-1), h) else ck (kd h l0 = 12) (ck ((kd h (gR h l0 28) = 22 ∨ kd h (gR h l0 28) = 26) ∧ ib (l1 + s0) (ln h (gR h l0 28))) ((if (gI h (gR h l0 28) (ix (l1 + s0))) = 0 then some (.int (-1), h) else some (.int (l1 + s0), h))))) := by
  refine mX_to 2 (k' := 24) (ls' := [some (.ref l0), some (.int l1), some (.int l2), some (.int s0), none, none, none, none]) (st' := [.int s0]) (h' := h) rfl ?_
  refine mX_br (t := 36) (f := 25) (ls' := [some (.ref l0), some (.int l1), some (.int l2), some (.int s0), none, none, none, none]) (st' := []) (h' := h) rfl ?_ ?_
  · refine mX_to 1 (k' := 37) (ls' := [some (.ref l0), some (.int l1), some (.int l2), some (.int s0), none, none, none, none]) (st' := [.int (-1)]) (h' := h) rfl ?_
    exact mX_reti rfl
  · refine mX_to 1 (k' := 26) (ls' := [some (.ref l0), some (.int l1), some (.int l2), some (.int s0), none, none, none, none]) (st' := [.ref l0]) (h' := h) rfl ?_
    refine mX_ck (k' := 27) (ls' := [some (.ref l0), some (.int l1), some (.int l2), some (.int s0), none, none, none, none]) (st' := [.ref (gR h l0 28)]) (h' := h) rfl ?_
    refine mX_to 3 (k' := 30) (ls' := [some (.ref l0), some (.int l1), some (.int l2), some (.int s0), none, none, none, none]) (st' := [.int (l1 + s0), .ref (gR h l0 28)]) (h' := h) rfl ?_
    refine mX_ck (k' := 31) (ls' := [some (.ref l0), some (.int l1), some (.int l2), some (.int s0), none, none, none, none]) (st' := [.int (gI h (gR h l0 28) (ix (l1 + s0)))]) (h' := h) rfl ?_
    refine mX_br (t := 36) (f := 32) (ls' := [some (.ref l0), some (.int l1), some (.int l2), some (.int s0), none, none, none, none]) (st' := []) (h' := h) rfl ?_ ?_
    · refine mX_to 1 (k' := 37) (ls' := [some (.ref l0), some (.int l1), some (.int l2), some (.int s0), none, none, none, none]) (st' := [.int (-1)]) (h' := h) rfl ?_
      exact mX_reti rfl
    · refine mX_to 4 (k' := 37) (ls' := [some (.ref l0), some (.int l1), some (.int l2), some (.int s0), none, none, none, none]) (st' := [.int (l1 + s0)]) (h' := h) rfl ?_
      exact mX_reti rfl
theorem D_X11_gone_65 (d : Nat) (h : MH) (l0 : Nat) (l1 : Int32) (l2 : Int32) (l3 : Int32) (l4 : Int32) (l5 : Int32) (s0 : Int32) (s1 : Int32) (s2 : Int32) (s3 : Nat) : mX (mE mtab d) KX11_gone 65 [some (.ref l0), some (.int l1), some (.int l2), some (.int l3), some (.int l4), some (.int l5), none, none] [.int s0, .int s1, .int s2, .ref s3] h = ck (kd h s3 = 12) (cI (mE mtab d 249 [.ref s3, .int s2, .int s1, .int s0] h) (fun x7 h6 => (if (l3 - l3 / 2 * 2) = 1 then mX (mE mtab d) KX11_gone 78 [some (.ref l0), some (.int l1), some (.int l2), some (.int l3), some (.int l4), some (.int l5), some (.int x7), none] [.int 1, .int l5, .int l1, .ref l0] h6 else mX (mE mtab d) KX11_gone 78 [some (.ref l0), some (.int l1), some (.int l2), some (.int l3), some (.int l4), some (.int l5), some (.int x7), none] [.int 0, .int l5, .int l1, .ref l0] h6))) := by
  refine mX_ckc (m := mcl (mE mtab d 249 [.ref s3, .int s2, .int s1, .int s0] h) 1 66 [some (.ref l0), some (.int l1), some (.int l2), some (.int l3), some (.int l4), some (.int l5), none, none] []) rfl ?_
  refine mk_cI ?_
  intro x7 h6
  refine mX_to 6 (k' := 72) (ls' := [some (.ref l0), some (.int l1), some (.int l2), some (.int l3), some (.int l4), some (.int l5), some (.int x7), none]) (st' := [.int 2, .int l3, .int l5, .int l1, .ref l0]) (h' := h6) rfl ?_
  refine mX_ckt (c := ¬ (2 : Int32) = 0) (k' := 73) (ls' := [some (.ref l0), some (.int l1), some (.int l2), some (.int l3), some (.int l4), some (.int l5), some (.int x7), none]) (st' := [.int (l3 - l3 / 2 * 2), .int l5, .int l1, .ref l0]) (h' := h6) (by decide) rfl ?_
  refine mX_to 1 (k' := 74) (ls' := [some (.ref l0), some (.int l1), some (.int l2), some (.int l3), some (.int l4), some (.int l5), some (.int x7), none]) (st' := [.int 1, .int (l3 - l3 / 2 * 2), .int l5, .int l1, .ref l0]) (h' := h6) rfl ?_
  refine mX_br (t := 75) (f := 77) (ls' := [some (.ref l0), some (.int l1), some (.int l2), some (.int l3), some (.int l4), some (.int l5), some (.int x7), none]) (st' := [.int l5, .int l1, .ref l0]) (h' := h6) rfl ?_ ?_
  · refine mX_to 2 (k' := 78) (ls' := [some (.ref l0), some (.int l1), some (.int l2), some (.int l3), some (.int l4), some (.int l5), some (.int x7), none]) (st' := [.int 1, .int l5, .int l1, .ref l0]) (h' := h6) rfl ?_
    rfl
  · refine mX_to 1 (k' := 78) (ls' := [some (.ref l0), some (.int l1), some (.int l2), some (.int l3), some (.int l4), some (.int l5), some (.int x7), none]) (st' := [.int 0, .int l5, .int l1, .ref l0]) (h' := h6) rfl ?_
    rfl
theorem D_X11_gone_78 (d : Nat) (h : MH) (l0 : Nat) (l1 : Int32) (l2 : Int32) (l3 : Int32) (l4 : Int32) (l5 : Int32) (l6 : Int32) (s0 : Int32) (s1 : Int32) (s2 : Int32) (s3 : Nat) : mX (mE mtab d) KX11_gone 78 [some (.ref l0), some (.int l1), some (.int l2), some (.int l3), some (.int l4), some (.int l5), some (.int l6), none] [.int s0, .int s1, .int s2, .ref s3] h = ck (kd h s3 = 12) (cI (mE mtab d 249 [.ref s3, .int s2, .int s1, .int s0] h) (fun x9 h8 => (if l4 < l5 then (if l6 = 0 then some (.int (-1), h8) else (if x9 = 0 then some (.int (-1), h8) else ck (kd h8 l0 = 12) (ck ((kd h8 (gR h8 l0 28) = 22 ∨ kd h8 (gR h8 l0 28) = 26) ∧ ib ((l1 + l6) + x9) (ln h8 (gR h8 l0 28))) ((if (gI h8 (gR h8 l0 28) (ix ((l1 + l6) + x9))) = 0 then some (.int (-1), h8) else some (.int ((l1 + l6) + x9), h8)))))) else some (.int (-1), h8)))) := by
  refine mX_ckc (m := mcl (mE mtab d 249 [.ref s3, .int s2, .int s1, .int s0] h) 1 79 [some (.ref l0), some (.int l1), some (.int l2), some (.int l3), some (.int l4), some (.int l5), some (.int l6), none] []) rfl ?_
  refine mk_cI ?_
  intro x9 h8
  refine mX_to 3 (k' := 82) (ls' := [some (.ref l0), some (.int l1), some (.int l2), some (.int l3), some (.int l4), some (.int l5), some (.int l6), some (.int x9)]) (st' := [.int l5, .int l4]) (h' := h8) rfl ?_
  refine mX_br (t := 83) (f := 102) (ls' := [some (.ref l0), some (.int l1), some (.int l2), some (.int l3), some (.int l4), some (.int l5), some (.int l6), some (.int x9)]) (st' := []) (h' := h8) rfl ?_ ?_
  · refine mX_to 1 (k' := 84) (ls' := [some (.ref l0), some (.int l1), some (.int l2), some (.int l3), some (.int l4), some (.int l5), some (.int l6), some (.int x9)]) (st' := [.int l6]) (h' := h8) rfl ?_
    refine mX_br (t := 102) (f := 85) (ls' := [some (.ref l0), some (.int l1), some (.int l2), some (.int l3), some (.int l4), some (.int l5), some (.int l6), some (.int x9)]) (st' := []) (h' := h8) rfl ?_ ?_
    · refine mX_to 1 (k' := 103) (ls' := [some (.ref l0), some (.int l1), some (.int l2), some (.int l3), some (.int l4), some (.int l5), some (.int l6), some (.int x9)]) (st' := [.int (-1)]) (h' := h8) rfl ?_
      exact mX_reti rfl
    · refine mX_to 1 (k' := 86) (ls' := [some (.ref l0), some (.int l1), some (.int l2), some (.int l3), some (.int l4), some (.int l5), some (.int l6), some (.int x9)]) (st' := [.int x9]) (h' := h8) rfl ?_
      refine mX_br (t := 102) (f := 87) (ls' := [some (.ref l0), some (.int l1), some (.int l2), some (.int l3), some (.int l4), some (.int l5), some (.int l6), some (.int x9)]) (st' := []) (h' := h8) rfl ?_ ?_
      · refine mX_to 1 (k' := 103) (ls' := [some (.ref l0), some (.int l1), some (.int l2), some (.int l3), some (.int l4), some (.int l5), some (.int l6), some (.int x9)]) (st' := [.int (-1)]) (h' := h8) rfl ?_
        exact mX_reti rfl
      · refine mX_to 1 (k' := 88) (ls' := [some (.ref l0), some (.int l1), some (.int l2), some (.int l3), some (.int l4), some (.int l5), some (.int l6), some (.int x9)]) (st' := [.ref l0]) (h' := h8) rfl ?_
        refine mX_ck (k' := 89) (ls' := [some (.ref l0), some (.int l1), some (.int l2), some (.int l3), some (.int l4), some (.int l5), some (.int l6), some (.int x9)]) (st' := [.ref (gR h8 l0 28)]) (h' := h8) rfl ?_
        refine mX_to 5 (k' := 94) (ls' := [some (.ref l0), some (.int l1), some (.int l2), some (.int l3), some (.int l4), some (.int l5), some (.int l6), some (.int x9)]) (st' := [.int ((l1 + l6) + x9), .ref (gR h8 l0 28)]) (h' := h8) rfl ?_
        refine mX_ck (k' := 95) (ls' := [some (.ref l0), some (.int l1), some (.int l2), some (.int l3), some (.int l4), some (.int l5), some (.int l6), some (.int x9)]) (st' := [.int (gI h8 (gR h8 l0 28) (ix ((l1 + l6) + x9)))]) (h' := h8) rfl ?_
        refine mX_br (t := 102) (f := 96) (ls' := [some (.ref l0), some (.int l1), some (.int l2), some (.int l3), some (.int l4), some (.int l5), some (.int l6), some (.int x9)]) (st' := []) (h' := h8) rfl ?_ ?_
        · refine mX_to 1 (k' := 103) (ls' := [some (.ref l0), some (.int l1), some (.int l2), some (.int l3), some (.int l4), some (.int l5), some (.int l6), some (.int x9)]) (st' := [.int (-1)]) (h' := h8) rfl ?_
          exact mX_reti rfl
        · refine mX_to 6 (k' := 103) (ls' := [some (.ref l0), some (.int l1), some (.int l2), some (.int l3), some (.int l4), some (.int l5), some (.int l6), some (.int x9)]) (st' := [.int ((l1 + l6) + x9)]) (h' := h8) rfl ?_
          exact mX_reti rfl
  · refine mX_to 1 (k' := 103) (ls' := [some (.ref l0), some (.int l1), some (.int l2), some (.int l3), some (.int l4), some (.int l5), some (.int l6), some (.int x9)]) (st' := [.int (-1)]) (h' := h8) rfl ?_
    exact mX_reti rfl
theorem D_X11_gone (d : Nat) (h : MH) (a0 : Nat) (a1 : Int32) (a2 : Int32) : mE mtab (d + 1) 250 [.ref a0, .int a1, .int a2] h = (if a2 < 10 then (if a2 < 8 then (if (a2 - a2 / 2 * 2) = 1 then mX (mE mtab d) KX11_gone 19 [some (.ref a0), some (.int a1), some (.int a2), none, none, none, none, none] [.int 1, .int (a2 / 2), .int a1, .ref a0] h else mX (mE mtab d) KX11_gone 19 [some (.ref a0), some (.int a1), some (.int a2), none, none, none, none, none] [.int 0, .int (a2 / 2), .int a1, .ref a0] h) else mX (mE mtab d) KX11_gone 22 [some (.ref a0), some (.int a1), some (.int a2), none, none, none, none, none] [.int 0] h) else lt_ (a2 - 10) fun v1 => lt_ (v1 / 16) fun v2 => lt_ ((v1 - v1 / 8 * 8) / 2) fun v3 => (if ((v1 / 8) - (v1 / 8) / 2 * 2) = 1 then mX (mE mtab d) KX11_gone 65 [some (.ref a0), some (.int a1), some (.int a2), some (.int v1), some (.int v2), some (.int v3), none, none] [.int 1, .int v2, .int a1, .ref a0] h else mX (mE mtab d) KX11_gone 65 [some (.ref a0), some (.int a1), some (.int a2), some (.int v1), some (.int v2), some (.int v3), none, none] [.int 0, .int v2, .int a1, .ref a0] h)) := by
  refine mE_eq (q := (yX11_gone, cX11_gone, 8, (some .int), KX11_gone)) (C := KX11_gone) (ls := [some (.ref a0), some (.int a1), some (.int a2), none, none, none, none, none]) rfl rfl rfl rfl ?_
  refine mX_to 2 (k' := 2) (ls' := [some (.ref a0), some (.int a1), some (.int a2), none, none, none, none, none]) (st' := [.int 10, .int a2]) (h' := h) rfl ?_
  refine mX_br (t := 3) (f := 38) (ls' := [some (.ref a0), some (.int a1), some (.int a2), none, none, none, none, none]) (st' := []) (h' := h) rfl ?_ ?_
  · refine mX_to 2 (k' := 5) (ls' := [some (.ref a0), some (.int a1), some (.int a2), none, none, none, none, none]) (st' := [.int 8, .int a2]) (h' := h) rfl ?_
    refine mX_br (t := 6) (f := 21) (ls' := [some (.ref a0), some (.int a1), some (.int a2), none, none, none, none, none]) (st' := []) (h' := h) rfl ?_ ?_
    · refine mX_to 4 (k' := 10) (ls' := [some (.ref a0), some (.int a1), some (.int a2), none, none, none, none, none]) (st' := [.int 2, .int a2, .int a1, .ref a0]) (h' := h) rfl ?_
      refine mX_ckt (c := ¬ (2 : Int32) = 0) (k' := 11) (ls' := [some (.ref a0), some (.int a1), some (.int a2), none, none, none, none, none]) (st' := [.int (a2 / 2), .int a1, .ref a0]) (h' := h) (by decide) rfl ?_
      refine mX_to 2 (k' := 13) (ls' := [some (.ref a0), some (.int a1), some (.int a2), none, none, none, none, none]) (st' := [.int 2, .int a2, .int (a2 / 2), .int a1, .ref a0]) (h' := h) rfl ?_
      refine mX_ckt (c := ¬ (2 : Int32) = 0) (k' := 14) (ls' := [some (.ref a0), some (.int a1), some (.int a2), none, none, none, none, none]) (st' := [.int (a2 - a2 / 2 * 2), .int (a2 / 2), .int a1, .ref a0]) (h' := h) (by decide) rfl ?_
      refine mX_to 1 (k' := 15) (ls' := [some (.ref a0), some (.int a1), some (.int a2), none, none, none, none, none]) (st' := [.int 1, .int (a2 - a2 / 2 * 2), .int (a2 / 2), .int a1, .ref a0]) (h' := h) rfl ?_
      refine mX_br (t := 16) (f := 18) (ls' := [some (.ref a0), some (.int a1), some (.int a2), none, none, none, none, none]) (st' := [.int (a2 / 2), .int a1, .ref a0]) (h' := h) rfl ?_ ?_
      · refine mX_to 2 (k' := 19) (ls' := [some (.ref a0), some (.int a1), some (.int a2), none, none, none, none, none]) (st' := [.int 1, .int (a2 / 2), .int a1, .ref a0]) (h' := h) rfl ?_
        rfl
      · refine mX_to 1 (k' := 19) (ls' := [some (.ref a0), some (.int a1), some (.int a2), none, none, none, none, none]) (st' := [.int 0, .int (a2 / 2), .int a1, .ref a0]) (h' := h) rfl ?_
        rfl
    · refine mX_to 1 (k' := 22) (ls' := [some (.ref a0), some (.int a1), some (.int a2), none, none, none, none, none]) (st' := [.int 0]) (h' := h) rfl ?_
      rfl
  · refine mX_to 3 (k' := 41) (ls' := [some (.ref a0), some (.int a1), some (.int a2), none, none, none, none, none]) (st' := [.int (a2 - 10)]) (h' := h) rfl ?_
    refine lt_gen (X := fun v1 : Int32 => mX (mE mtab d) KX11_gone 41 [some (.ref a0), some (.int a1), some (.int a2), none, none, none, none, none] [.int v1] h) fun v1 => ?_
    refine mX_to 3 (k' := 44) (ls' := [some (.ref a0), some (.int a1), some (.int a2), some (.int v1), none, none, none, none]) (st' := [.int 16, .int v1]) (h' := h) rfl ?_
    refine mX_ckt (c := ¬ (16 : Int32) = 0) (k' := 45) (ls' := [some (.ref a0), some (.int a1), some (.int a2), some (.int v1), none, none, none, none]) (st' := [.int (v1 / 16)]) (h' := h) (by decide) rfl ?_
    refine lt_gen (X := fun v2 : Int32 => mX (mE mtab d) KX11_gone 45 [some (.ref a0), some (.int a1), some (.int a2), some (.int v1), none, none, none, none] [.int v2] h) fun v2 => ?_
    refine mX_to 3 (k' := 48) (ls' := [some (.ref a0), some (.int a1), some (.int a2), some (.int v1), some (.int v2), none, none, none]) (st' := [.int 8, .int v1]) (h' := h) rfl ?_
    refine mX_ckt (c := ¬ (8 : Int32) = 0) (k' := 49) (ls' := [some (.ref a0), some (.int a1), some (.int a2), some (.int v1), some (.int v2), none, none, none]) (st' := [.int (v1 - v1 / 8 * 8)]) (h' := h) (by decide) rfl ?_
    refine mX_to 1 (k' := 50) (ls' := [some (.ref a0), some (.int a1), some (.int a2), some (.int v1), some (.int v2), none, none, none]) (st' := [.int 2, .int (v1 - v1 / 8 * 8)]) (h' := h) rfl ?_
    refine mX_ckt (c := ¬ (2 : Int32) = 0) (k' := 51) (ls' := [some (.ref a0), some (.int a1), some (.int a2), some (.int v1), some (.int v2), none, none, none]) (st' := [.int ((v1 - v1 / 8 * 8) / 2)]) (h' := h) (by decide) rfl ?_
    refine lt_gen (X := fun v3 : Int32 => mX (mE mtab d) KX11_gone 51 [some (.ref a0), some (.int a1), some (.int a2), some (.int v1), some (.int v2), none, none, none] [.int v3] h) fun v3 => ?_
    refine mX_to 6 (k' := 57) (ls' := [some (.ref a0), some (.int a1), some (.int a2), some (.int v1), some (.int v2), some (.int v3), none, none]) (st' := [.int 8, .int v1, .int v2, .int a1, .ref a0]) (h' := h) rfl ?_
    refine mX_ckt (c := ¬ (8 : Int32) = 0) (k' := 58) (ls' := [some (.ref a0), some (.int a1), some (.int a2), some (.int v1), some (.int v2), some (.int v3), none, none]) (st' := [.int (v1 / 8), .int v2, .int a1, .ref a0]) (h' := h) (by decide) rfl ?_
    refine mX_to 1 (k' := 59) (ls' := [some (.ref a0), some (.int a1), some (.int a2), some (.int v1), some (.int v2), some (.int v3), none, none]) (st' := [.int 2, .int (v1 / 8), .int v2, .int a1, .ref a0]) (h' := h) rfl ?_
    refine mX_ckt (c := ¬ (2 : Int32) = 0) (k' := 60) (ls' := [some (.ref a0), some (.int a1), some (.int a2), some (.int v1), some (.int v2), some (.int v3), none, none]) (st' := [.int ((v1 / 8) - (v1 / 8) / 2 * 2), .int v2, .int a1, .ref a0]) (h' := h) (by decide) rfl ?_
    refine mX_to 1 (k' := 61) (ls' := [some (.ref a0), some (.int a1), some (.int a2), some (.int v1), some (.int v2), some (.int v3), none, none]) (st' := [.int 1, .int ((v1 / 8) - (v1 / 8) / 2 * 2), .int v2, .int a1, .ref a0]) (h' := h) rfl ?_
    refine mX_br (t := 62) (f := 64) (ls' := [some (.ref a0), some (.int a1), some (.int a2), some (.int v1), some (.int v2), some (.int v3), none, none]) (st' := [.int v2, .int a1, .ref a0]) (h' := h) rfl ?_ ?_
    · refine mX_to 2 (k' := 65) (ls' := [some (.ref a0), some (.int a1), some (.int a2), some (.int v1), some (.int v2), some (.int v3), none, none]) (st' := [.int 1, .int v2, .int a1, .ref a0]) (h' := h) rfl ?_
      rfl
    · refine mX_to 1 (k' := 65) (ls' := [some (.ref a0), some (.int a1), some (.int a2), some (.int v1), some (.int v2), some (.int v3), none, none]) (st' := [.int 0, .int v2, .int a1, .ref a0]) (h' := h) rfl ?_
      rfl
theorem D_X11_spread_4 (d : Nat) (h : MH) (l0 : Nat) (l1 : Int32) (l2 : Int32) (l3 : Int32) (l4 : Int32) (o5 : Option Value) (o6 : Option Value) : mX (mE mtab d) KX11_spread 4 [some (.ref l0), some (.int l1), some (.int l2), some (.int l3), some (.int l4), o5, o6] [] h = (if l4 < l3 then mX (mE mtab d) KX11_spread 9 [some (.ref l0), some (.int l1), some (.int l2), some (.int l3), some (.int l4), some (.int 0), o6] [] h else some (.int l3, h)) := by
  refine mX_to 2 (k' := 6) (ls' := [some (.ref l0), some (.int l1), some (.int l2), some (.int l3), some (.int l4), o5, o6]) (st' := [.int l3, .int l4]) (h' := h) rfl ?_
  refine mX_br (t := 7) (f := 53) (ls' := [some (.ref l0), some (.int l1), some (.int l2), some (.int l3), some (.int l4), o5, o6]) (st' := []) (h' := h) rfl ?_ ?_
  · refine mX_to 2 (k' := 9) (ls' := [some (.ref l0), some (.int l1), some (.int l2), some (.int l3), some (.int l4), some (.int 0), o6]) (st' := []) (h' := h) rfl ?_
    rfl
  · refine mX_to 1 (k' := 54) (ls' := [some (.ref l0), some (.int l1), some (.int l2), some (.int l3), some (.int l4), o5, o6]) (st' := [.int l3]) (h' := h) rfl ?_
    exact mX_reti rfl
theorem D_X11_spread_9 (d : Nat) (h : MH) (l0 : Nat) (l1 : Int32) (l2 : Int32) (l3 : Int32) (l4 : Int32) (l5 : Int32) (o6 : Option Value) : mX (mE mtab d) KX11_spread 9 [some (.ref l0), some (.int l1), some (.int l2), some (.int l3), some (.int l4), some (.int l5), o6] [] h = (if l5 < l2 then ck (kd h l0 = 12) (ck ((kd h (gR h l0 27) = 20 ∨ kd h (gR h l0 27) = 24) ∧ ib l4 (ln h (gR h l0 27))) (ck (kd h l0 = 12) (cI (mE mtab d 250 [.ref l0, .int (gI h (gR h l0 27) (ix l4)), .int l5] h) (fun x2 h1 => (if x2 = (-1) then mX (mE mtab d) KX11_spread 49 [some (.ref l0), some (.int l1), some (.int l2), some (.int l3), some (.int l4), some (.int l5), some (.int x2)] [] h1 else ck (kd h1 l0 = 12) (ck ((kd h1 (gR h1 l0 26) = 20 ∨ kd h1 (gR h1 l0 26) = 24) ∧ ib x2 (ln h1 (gR h1 l0 26))) ((if (gI h1 (gR h1 l0 26) (ix x2)) = (-1) then ck (kd h1 l0 = 12) (ck (kd h1 l0 = 12) (ck (kd h1 l0 = 12) (ck ((kd h1 (gR h1 l0 27) = 20 ∨ kd h1 (gR h1 l0 27) = 24) ∧ ib l4 (ln h1 (gR h1 l0 27))) (ck ((kd h1 (gR h1 l0 26) = 20 ∨ kd h1 (gR h1 l0 26) = 24) ∧ ib (gI h1 (gR h1 l0 27) (ix l4)) (ln h1 (gR h1 l0 26))) (ck (kd h1 (gR h1 l0 26) = 20 ∧ ib x2 (ln h1 (gR h1 l0 26))) (lt_ (sI h1 (gR h1 l0 26) (ix x2) ((gI h1 (gR h1 l0 26) (ix (gI h1 (gR h1 l0 27) (ix l4)))) + 1)) fun h3 => ck (kd h3 l0 = 12) (ck (kd h3 (gR h3 l0 27) = 20 ∧ ib l3 (ln h3 (gR h3 l0 27))) (lt_ (sI h3 (gR h3 l0 27) (ix l3) x2) fun h4 => mX (mE mtab d) KX11_spread 49 [some (.ref l0), some (.int l1), some (.int l2), some (.int (l3 + 1)), some (.int l4), some (.int l5), some (.int x2)] [] h4)))))))) else mX (mE mtab d) KX11_spread 49 [some (.ref l0), some (.int l1), some (.int l2), some (.int l3), some (.int l4), some (.int l5), some (.int x2)] [] h1)))))))) else mX (mE mtab d) KX11_spread 4 [some (.ref l0), some (.int l1), some (.int l2), some (.int l3), some (.int (l4 + 1)), some (.int l5), o6] [] h) := by
  refine mX_to 2 (k' := 11) (ls' := [some (.ref l0), some (.int l1), some (.int l2), some (.int l3), some (.int l4), some (.int l5), o6]) (st' := [.int l2, .int l5]) (h' := h) rfl ?_
  refine mX_br (t := 12) (f := 51) (ls' := [some (.ref l0), some (.int l1), some (.int l2), some (.int l3), some (.int l4), some (.int l5), o6]) (st' := []) (h' := h) rfl ?_ ?_
  · refine mX_to 2 (k' := 14) (ls' := [some (.ref l0), some (.int l1), some (.int l2), some (.int l3), some (.int l4), some (.int l5), o6]) (st' := [.ref l0, .ref l0]) (h' := h) rfl ?_
    refine mX_ck (k' := 15) (ls' := [some (.ref l0), some (.int l1), some (.int l2), some (.int l3), some (.int l4), some (.int l5), o6]) (st' := [.ref (gR h l0 27), .ref l0]) (h' := h) rfl ?_
    refine mX_to 1 (k' := 16) (ls' := [some (.ref l0), some (.int l1), some (.int l2), some (.int l3), some (.int l4), some (.int l5), o6]) (st' := [.int l4, .ref (gR h l0 27), .ref l0]) (h' := h) rfl ?_
    refine mX_ck (k' := 17) (ls' := [some (.ref l0), some (.int l1), some (.int l2), some (.int l3), some (.int l4), some (.int l5), o6]) (st' := [.int (gI h (gR h l0 27) (ix l4)), .ref l0]) (h' := h) rfl ?_
    refine mX_to 1 (k' := 18) (ls' := [some (.ref l0), some (.int l1), some (.int l2), some (.int l3), some (.int l4), some (.int l5), o6]) (st' := [.int l5, .int (gI h (gR h l0 27) (ix l4)), .ref l0]) (h' := h) rfl ?_
    refine mX_ckc (m := mcl (mE mtab d 250 [.ref l0, .int (gI h (gR h l0 27) (ix l4)), .int l5] h) 1 19 [some (.ref l0), some (.int l1), some (.int l2), some (.int l3), some (.int l4), some (.int l5), o6] []) rfl ?_
    refine mk_cI ?_
    intro x2 h1
    refine mX_to 3 (k' := 22) (ls' := [some (.ref l0), some (.int l1), some (.int l2), some (.int l3), some (.int l4), some (.int l5), some (.int x2)]) (st' := [.int (-1), .int x2]) (h' := h1) rfl ?_
    refine mX_br (t := 49) (f := 23) (ls' := [some (.ref l0), some (.int l1), some (.int l2), some (.int l3), some (.int l4), some (.int l5), some (.int x2)]) (st' := []) (h' := h1) rfl ?_ ?_
    · rfl
    · refine mX_to 1 (k' := 24) (ls' := [some (.ref l0), some (.int l1), some (.int l2), some (.int l3), some (.int l4), some (.int l5), some (.int x2)]) (st' := [.ref l0]) (h' := h1) rfl ?_
      refine mX_ck (k' := 25) (ls' := [some (.ref l0), some (.int l1), some (.int l2), some (.int l3), some (.int l4), some (.int l5), some (.int x2)]) (st' := [.ref (gR h1 l0 26)]) (h' := h1) rfl ?_
      refine mX_to 1 (k' := 26) (ls' := [some (.ref l0), some (.int l1), some (.int l2), some (.int l3), some (.int l4), some (.int l5), some (.int x2)]) (st' := [.int x2, .ref (gR h1 l0 26)]) (h' := h1) rfl ?_
      refine mX_ck (k' := 27) (ls' := [some (.ref l0), some (.int l1), some (.int l2), some (.int l3), some (.int l4), some (.int l5), some (.int x2)]) (st' := [.int (gI h1 (gR h1 l0 26) (ix x2))]) (h' := h1) rfl ?_
      refine mX_to 1 (k' := 28) (ls' := [some (.ref l0), some (.int l1), some (.int l2), some (.int l3), some (.int l4), some (.int l5), some (.int x2)]) (st' := [.int (-1), .int (gI h1 (gR h1 l0 26) (ix x2))]) (h' := h1) rfl ?_
      refine mX_br (t := 30) (f := 29) (ls' := [some (.ref l0), some (.int l1), some (.int l2), some (.int l3), some (.int l4), some (.int l5), some (.int x2)]) (st' := []) (h' := h1) rfl ?_ ?_
      · refine mX_to 1 (k' := 31) (ls' := [some (.ref l0), some (.int l1), some (.int l2), some (.int l3), some (.int l4), some (.int l5), some (.int x2)]) (st' := [.ref l0]) (h' := h1) rfl ?_
        refine mX_ck (k' := 32) (ls' := [some (.ref l0), some (.int l1), some (.int l2), some (.int l3), some (.int l4), some (.int l5), some (.int x2)]) (st' := [.ref (gR h1 l0 26)]) (h' := h1) rfl ?_
        refine mX_to 2 (k' := 34) (ls' := [some (.ref l0), some (.int l1), some (.int l2), some (.int l3), some (.int l4), some (.int l5), some (.int x2)]) (st' := [.ref l0, .int x2, .ref (gR h1 l0 26)]) (h' := h1) rfl ?_
        refine mX_ck (k' := 35) (ls' := [some (.ref l0), some (.int l1), some (.int l2), some (.int l3), some (.int l4), some (.int l5), some (.int x2)]) (st' := [.ref (gR h1 l0 26), .int x2, .ref (gR h1 l0 26)]) (h' := h1) rfl ?_
        refine mX_to 1 (k' := 36) (ls' := [some (.ref l0), some (.int l1), some (.int l2), some (.int l3), some (.int l4), some (.int l5), some (.int x2)]) (st' := [.ref l0, .ref (gR h1 l0 26), .int x2, .ref (gR h1 l0 26)]) (h' := h1) rfl ?_
        refine mX_ck (k' := 37) (ls' := [some (.ref l0), some (.int l1), some (.int l2), some (.int l3), some (.int l4), some (.int l5), some (.int x2)]) (st' := [.ref (gR h1 l0 27), .ref (gR h1 l0 26), .int x2, .ref (gR h1 l0 26)]) (h' := h1) rfl ?_
        refine mX_to 1 (k' := 38) (ls' := [some (.ref l0), some (.int l1), some (.int l2), some (.int l3), some (.int l4), some (.int l5), some (.int x2)]) (st' := [.int l4, .ref (gR h1 l0 27), .ref (gR h1 l0 26), .int x2, .ref (gR h1 l0 26)]) (h' := h1) rfl ?_
        refine mX_ck (k' := 39) (ls' := [some (.ref l0), some (.int l1), some (.int l2), some (.int l3), some (.int l4), some (.int l5), some (.int x2)]) (st' := [.int (gI h1 (gR h1 l0 27) (ix l4)), .ref (gR h1 l0 26), .int x2, .ref (gR h1 l0 26)]) (h' := h1) rfl ?_
        refine mX_ck (k' := 40) (ls' := [some (.ref l0), some (.int l1), some (.int l2), some (.int l3), some (.int l4), some (.int l5), some (.int x2)]) (st' := [.int (gI h1 (gR h1 l0 26) (ix (gI h1 (gR h1 l0 27) (ix l4)))), .int x2, .ref (gR h1 l0 26)]) (h' := h1) rfl ?_
        refine mX_to 2 (k' := 42) (ls' := [some (.ref l0), some (.int l1), some (.int l2), some (.int l3), some (.int l4), some (.int l5), some (.int x2)]) (st' := [.int ((gI h1 (gR h1 l0 26) (ix (gI h1 (gR h1 l0 27) (ix l4)))) + 1), .int x2, .ref (gR h1 l0 26)]) (h' := h1) rfl ?_
        refine mX_ck (k' := 43) (ls' := [some (.ref l0), some (.int l1), some (.int l2), some (.int l3), some (.int l4), some (.int l5), some (.int x2)]) (st' := []) (h' := (sI h1 (gR h1 l0 26) (ix x2) ((gI h1 (gR h1 l0 26) (ix (gI h1 (gR h1 l0 27) (ix l4)))) + 1))) rfl ?_
        refine lt_gen (X := fun h3 : MH => mX (mE mtab d) KX11_spread 43 [some (.ref l0), some (.int l1), some (.int l2), some (.int l3), some (.int l4), some (.int l5), some (.int x2)] [] h3) fun h3 => ?_
        refine mX_to 1 (k' := 44) (ls' := [some (.ref l0), some (.int l1), some (.int l2), some (.int l3), some (.int l4), some (.int l5), some (.int x2)]) (st' := [.ref l0]) (h' := h3) rfl ?_
        refine mX_ck (k' := 45) (ls' := [some (.ref l0), some (.int l1), some (.int l2), some (.int l3), some (.int l4), some (.int l5), some (.int x2)]) (st' := [.ref (gR h3 l0 27)]) (h' := h3) rfl ?_
        refine mX_to 2 (k' := 47) (ls' := [some (.ref l0), some (.int l1), some (.int l2), some (.int l3), some (.int l4), some (.int l5), some (.int x2)]) (st' := [.int x2, .int l3, .ref (gR h3 l0 27)]) (h' := h3) rfl ?_
        refine mX_ck (k' := 48) (ls' := [some (.ref l0), some (.int l1), some (.int l2), some (.int l3), some (.int l4), some (.int l5), some (.int x2)]) (st' := []) (h' := (sI h3 (gR h3 l0 27) (ix l3) x2)) rfl ?_
        refine lt_gen (X := fun h4 : MH => mX (mE mtab d) KX11_spread 48 [some (.ref l0), some (.int l1), some (.int l2), some (.int l3), some (.int l4), some (.int l5), some (.int x2)] [] h4) fun h4 => ?_
        refine mX_to 1 (k' := 49) (ls' := [some (.ref l0), some (.int l1), some (.int l2), some (.int (l3 + 1)), some (.int l4), some (.int l5), some (.int x2)]) (st' := []) (h' := h4) rfl ?_
        rfl
      · refine mX_to 1 (k' := 49) (ls' := [some (.ref l0), some (.int l1), some (.int l2), some (.int l3), some (.int l4), some (.int l5), some (.int x2)]) (st' := []) (h' := h1) rfl ?_
        rfl
  · refine mX_to 2 (k' := 4) (ls' := [some (.ref l0), some (.int l1), some (.int l2), some (.int l3), some (.int (l4 + 1)), some (.int l5), o6]) (st' := []) (h' := h) rfl ?_
    rfl
theorem D_X11_spread_49 (d : Nat) (h : MH) (l0 : Nat) (l1 : Int32) (l2 : Int32) (l3 : Int32) (l4 : Int32) (l5 : Int32) (l6 : Int32) : mX (mE mtab d) KX11_spread 49 [some (.ref l0), some (.int l1), some (.int l2), some (.int l3), some (.int l4), some (.int l5), some (.int l6)] [] h = mX (mE mtab d) KX11_spread 9 [some (.ref l0), some (.int l1), some (.int l2), some (.int l3), some (.int l4), some (.int (l5 + 1)), some (.int l6)] [] h := by
  refine mX_to 2 (k' := 9) (ls' := [some (.ref l0), some (.int l1), some (.int l2), some (.int l3), some (.int l4), some (.int (l5 + 1)), some (.int l6)]) (st' := []) (h' := h) rfl ?_
  rfl
theorem D_X11_spread (d : Nat) (h : MH) (a0 : Nat) (a1 : Int32) (a2 : Int32) : mE mtab (d + 1) 251 [.ref a0, .int a1, .int a2] h = mX (mE mtab d) KX11_spread 4 [some (.ref a0), some (.int a1), some (.int a2), some (.int a1), some (.int 0), none, none] [] h := by
  refine mE_eq (q := (yX11_spread, cX11_spread, 7, (some .int), KX11_spread)) (C := KX11_spread) (ls := [some (.ref a0), some (.int a1), some (.int a2), none, none, none, none]) rfl rfl rfl rfl ?_
  refine mX_to 4 (k' := 4) (ls' := [some (.ref a0), some (.int a1), some (.int a2), some (.int a1), some (.int 0), none, none]) (st' := []) (h' := h) rfl ?_
  rfl
theorem D_X11_layFars_6 (d : Nat) (h : MH) (l0 : Nat) (l1 : Int32) (l2 : Int32) (l3 : Int32) : mX (mE mtab d) KX11_layFars 6 [some (.ref l0), some (.int l1), some (.int l2), some (.int l3)] [] h = ck (kd h l0 = 12) (ck ((kd h (gR h l0 0) = 20 ∨ kd h (gR h l0 0) = 24) ∧ ib (0 : Int32) (ln h (gR h l0 0))) (cI (mE mtab d 244 [.int (gI h (gR h l0 0) (ix (0 : Int32)))] h) (fun x3 h2 => (if l3 < x3 then ck (kd h2 l0 = 12) (ck (kd h2 l0 = 12) (ck ((kd h2 (gR h2 l0 28) = 22 ∨ kd h2 (gR h2 l0 28) = 26) ∧ ib l3 (ln h2 (gR h2 l0 28))) ((if (gI h2 (gR h2 l0 28) (ix l3)) = 0 then mX (mE mtab d) KX11_layFars 27 [some (.ref l0), some (.int l1), some (.int l2), some (.int l3)] [.int l3, .ref (gR h2 l0 26)] h2 else ck (kd h2 l0 = 12) (cI (mE mtab d 247 [.ref l0, .int l3] h2) (fun x5 h4 => (if x5 = 0 then mX (mE mtab d) KX11_layFars 27 [some (.ref l0), some (.int l1), some (.int l2), some (.int l3)] [.int l3, .ref (gR h2 l0 26)] h4 else mX (mE mtab d) KX11_layFars 28 [some (.ref l0), some (.int l1), some (.int l2), some (.int l3)] [.int 0, .int l3, .ref (gR h2 l0 26)] h4))))))) else cI (mE mtab d 248 [.int l1] h2) (fun x7 h6 => ck (kd h6 l0 = 12) (cI (mE mtab d 251 [.ref l0, .int l2, .int x7] h6) (fun x9 h8 => (if x9 < 0 then some (.int 0, h8) else some (.int 0, h8))))))))) := by
  refine mX_to 2 (k' := 8) (ls' := [some (.ref l0), some (.int l1), some (.int l2), some (.int l3)]) (st' := [.ref l0, .int l3]) (h' := h) rfl ?_
  refine mX_ck (k' := 9) (ls' := [some (.ref l0), some (.int l1), some (.int l2), some (.int l3)]) (st' := [.ref (gR h l0 0), .int l3]) (h' := h) rfl ?_
  refine mX_to 1 (k' := 10) (ls' := [some (.ref l0), some (.int l1), some (.int l2), some (.int l3)]) (st' := [.int 0, .ref (gR h l0 0), .int l3]) (h' := h) rfl ?_
  refine mX_ck (k' := 11) (ls' := [some (.ref l0), some (.int l1), some (.int l2), some (.int l3)]) (st' := [.int (gI h (gR h l0 0) (ix (0 : Int32))), .int l3]) (h' := h) rfl ?_
  refine mX_cI (o := mE mtab d 244 [.int (gI h (gR h l0 0) (ix (0 : Int32)))] h) (k' := 12) (ls' := [some (.ref l0), some (.int l1), some (.int l2), some (.int l3)]) (st' := [.int l3]) rfl ?_
  intro x3 h2
  refine mX_br (t := 13) (f := 44) (ls' := [some (.ref l0), some (.int l1), some (.int l2), some (.int l3)]) (st' := []) (h' := h2) rfl ?_ ?_
  · refine mX_to 1 (k' := 14) (ls' := [some (.ref l0), some (.int l1), some (.int l2), some (.int l3)]) (st' := [.ref l0]) (h' := h2) rfl ?_
    refine mX_ck (k' := 15) (ls' := [some (.ref l0), some (.int l1), some (.int l2), some (.int l3)]) (st' := [.ref (gR h2 l0 26)]) (h' := h2) rfl ?_
    refine mX_to 2 (k' := 17) (ls' := [some (.ref l0), some (.int l1), some (.int l2), some (.int l3)]) (st' := [.ref l0, .int l3, .ref (gR h2 l0 26)]) (h' := h2) rfl ?_
    refine mX_ck (k' := 18) (ls' := [some (.ref l0), some (.int l1), some (.int l2), some (.int l3)]) (st' := [.ref (gR h2 l0 28), .int l3, .ref (gR h2 l0 26)]) (h' := h2) rfl ?_
    refine mX_to 1 (k' := 19) (ls' := [some (.ref l0), some (.int l1), some (.int l2), some (.int l3)]) (st' := [.int l3, .ref (gR h2 l0 28), .int l3, .ref (gR h2 l0 26)]) (h' := h2) rfl ?_
    refine mX_ck (k' := 20) (ls' := [some (.ref l0), some (.int l1), some (.int l2), some (.int l3)]) (st' := [.int (gI h2 (gR h2 l0 28) (ix l3)), .int l3, .ref (gR h2 l0 26)]) (h' := h2) rfl ?_
    refine mX_br (t := 27) (f := 21) (ls' := [some (.ref l0), some (.int l1), some (.int l2), some (.int l3)]) (st' := [.int l3, .ref (gR h2 l0 26)]) (h' := h2) rfl ?_ ?_
    · rfl
    · refine mX_to 2 (k' := 23) (ls' := [some (.ref l0), some (.int l1), some (.int l2), some (.int l3)]) (st' := [.int l3, .ref l0, .int l3, .ref (gR h2 l0 26)]) (h' := h2) rfl ?_
      refine mX_ckc (m := mcl (mE mtab d 247 [.ref l0, .int l3] h2) 1 24 [some (.ref l0), some (.int l1), some (.int l2), some (.int l3)] [.int l3, .ref (gR h2 l0 26)]) rfl ?_
      refine mk_cI ?_
      intro x5 h4
      refine mX_br (t := 27) (f := 25) (ls' := [some (.ref l0), some (.int l1), some (.int l2), some (.int l3)]) (st' := [.int l3, .ref (gR h2 l0 26)]) (h' := h4) rfl ?_ ?_
      · rfl
      · refine mX_to 2 (k' := 28) (ls' := [some (.ref l0), some (.int l1), some (.int l2), some (.int l3)]) (st' := [.int 0, .int l3, .ref (gR h2 l0 26)]) (h' := h4) rfl ?_
        rfl
  · refine mX_to 3 (k' := 47) (ls' := [some (.ref l0), some (.int l1), some (.int l2), some (.int l3)]) (st' := [.int l1, .int l2, .ref l0]) (h' := h2) rfl ?_
    refine mX_cI (o := mE mtab d 248 [.int l1] h2) (k' := 48) (ls' := [some (.ref l0), some (.int l1), some (.int l2), some (.int l3)]) (st' := [.int l2, .ref l0]) rfl ?_
    intro x7 h6
    refine mX_ckc (m := mcl (mE mtab d 251 [.ref l0, .int l2, .int x7] h6) 1 49 [some (.ref l0), some (.int l1), some (.int l2), some (.int l3)] []) rfl ?_
    refine mk_cI ?_
    intro x9 h8
    refine mX_br (t := 50) (f := 51) (ls' := [some (.ref l0), some (.int l1), some (.int l2), some (.int l3)]) (st' := []) (h' := h8) rfl ?_ ?_
    · exact mX_ret rfl
    · exact mX_ret rfl
theorem D_X11_layFars_27 (d : Nat) (h : MH) (l0 : Nat) (l1 : Int32) (l2 : Int32) (l3 : Int32) (s0 : Int32) (s1 : Nat) : mX (mE mtab d) KX11_layFars 27 [some (.ref l0), some (.int l1), some (.int l2), some (.int l3)] [.int s0, .ref s1] h = mX (mE mtab d) KX11_layFars 28 [some (.ref l0), some (.int l1), some (.int l2), some (.int l3)] [.int (-1), .int s0, .ref s1] h := by
  refine mX_to 1 (k' := 28) (ls' := [some (.ref l0), some (.int l1), some (.int l2), some (.int l3)]) (st' := [.int (-1), .int s0, .ref s1]) (h' := h) rfl ?_
  rfl
theorem D_X11_layFars_28 (d : Nat) (h : MH) (l0 : Nat) (l1 : Int32) (l2 : Int32) (l3 : Int32) (s0 : Int32) (s1 : Int32) (s2 : Nat) : mX (mE mtab d) KX11_layFars 28 [some (.ref l0), some (.int l1), some (.int l2), some (.int l3)] [.int s0, .int s1, .ref s2] h = ck (kd h s2 = 20 ∧ ib s1 (ln h s2)) (lt_ (sI h s2 (ix s1) s0) fun h10 => ck (kd h10 l0 = 12) (ck ((kd h10 (gR h10 l0 26) = 20 ∨ kd h10 (gR h10 l0 26) = 24) ∧ ib l3 (ln h10 (gR h10 l0 26))) ((if (gI h10 (gR h10 l0 26) (ix l3)) = (-1) then mX (mE mtab d) KX11_layFars 42 [some (.ref l0), some (.int l1), some (.int l2), some (.int l3)] [] h10 else ck (kd h10 l0 = 12) (ck (kd h10 (gR h10 l0 27) = 20 ∧ ib l2 (ln h10 (gR h10 l0 27))) (lt_ (sI h10 (gR h10 l0 27) (ix l2) l3) fun h11 => mX (mE mtab d) KX11_layFars 42 [some (.ref l0), some (.int l1), some (.int (l2 + 1)), some (.int l3)] [] h11)))))) := by
  refine mX_ck (k' := 29) (ls' := [some (.ref l0), some (.int l1), some (.int l2), some (.int l3)]) (st' := []) (h' := (sI h s2 (ix s1) s0)) rfl ?_
  refine lt_gen (X := fun h10 : MH => mX (mE mtab d) KX11_layFars 29 [some (.ref l0), some (.int l1), some (.int l2), some (.int l3)] [] h10) fun h10 => ?_
  refine mX_to 1 (k' := 30) (ls' := [some (.ref l0), some (.int l1), some (.int l2), some (.int l3)]) (st' := [.ref l0]) (h' := h10) rfl ?_
  refine mX_ck (k' := 31) (ls' := [some (.ref l0), some (.int l1), some (.int l2), some (.int l3)]) (st' := [.ref (gR h10 l0 26)]) (h' := h10) rfl ?_
  refine mX_to 1 (k' := 32) (ls' := [some (.ref l0), some (.int l1), some (.int l2), some (.int l3)]) (st' := [.int l3, .ref (gR h10 l0 26)]) (h' := h10) rfl ?_
  refine mX_ck (k' := 33) (ls' := [some (.ref l0), some (.int l1), some (.int l2), some (.int l3)]) (st' := [.int (gI h10 (gR h10 l0 26) (ix l3))]) (h' := h10) rfl ?_
  refine mX_to 1 (k' := 34) (ls' := [some (.ref l0), some (.int l1), some (.int l2), some (.int l3)]) (st' := [.int (-1), .int (gI h10 (gR h10 l0 26) (ix l3))]) (h' := h10) rfl ?_
  refine mX_br (t := 35) (f := 36) (ls' := [some (.ref l0), some (.int l1), some (.int l2), some (.int l3)]) (st' := []) (h' := h10) rfl ?_ ?_
  · refine mX_to 1 (k' := 42) (ls' := [some (.ref l0), some (.int l1), some (.int l2), some (.int l3)]) (st' := []) (h' := h10) rfl ?_
    rfl
  · refine mX_to 1 (k' := 37) (ls' := [some (.ref l0), some (.int l1), some (.int l2), some (.int l3)]) (st' := [.ref l0]) (h' := h10) rfl ?_
    refine mX_ck (k' := 38) (ls' := [some (.ref l0), some (.int l1), some (.int l2), some (.int l3)]) (st' := [.ref (gR h10 l0 27)]) (h' := h10) rfl ?_
    refine mX_to 2 (k' := 40) (ls' := [some (.ref l0), some (.int l1), some (.int l2), some (.int l3)]) (st' := [.int l3, .int l2, .ref (gR h10 l0 27)]) (h' := h10) rfl ?_
    refine mX_ck (k' := 41) (ls' := [some (.ref l0), some (.int l1), some (.int l2), some (.int l3)]) (st' := []) (h' := (sI h10 (gR h10 l0 27) (ix l2) l3)) rfl ?_
    refine lt_gen (X := fun h11 : MH => mX (mE mtab d) KX11_layFars 41 [some (.ref l0), some (.int l1), some (.int l2), some (.int l3)] [] h11) fun h11 => ?_
    refine mX_to 1 (k' := 42) (ls' := [some (.ref l0), some (.int l1), some (.int (l2 + 1)), some (.int l3)]) (st' := []) (h' := h11) rfl ?_
    rfl
theorem D_X11_layFars_42 (d : Nat) (h : MH) (l0 : Nat) (l1 : Int32) (l2 : Int32) (l3 : Int32) : mX (mE mtab d) KX11_layFars 42 [some (.ref l0), some (.int l1), some (.int l2), some (.int l3)] [] h = mX (mE mtab d) KX11_layFars 6 [some (.ref l0), some (.int l1), some (.int l2), some (.int (l3 + 1))] [] h := by
  refine mX_to 2 (k' := 6) (ls' := [some (.ref l0), some (.int l1), some (.int l2), some (.int (l3 + 1))]) (st' := []) (h' := h) rfl ?_
  rfl
theorem D_X11_layFars (d : Nat) (h : MH) (a0 : Nat) (a1 : Int32) : mE mtab (d + 1) 252 [.ref a0, .int a1] h = ck (kd h a0 = 12) (cV (mE mtab d 246 [.ref a0] h) (fun h1 => mX (mE mtab d) KX11_layFars 6 [some (.ref a0), some (.int a1), some (.int 0), some (.int 0)] [] h1)) := by
  refine mE_eq (q := (yX11_layFars, cX11_layFars, 4, none, KX11_layFars)) (C := KX11_layFars) (ls := [some (.ref a0), some (.int a1), none, none]) rfl rfl rfl rfl ?_
  refine mX_to 1 (k' := 1) (ls' := [some (.ref a0), some (.int a1), none, none]) (st' := [.ref a0]) (h' := h) rfl ?_
  refine mX_ckc (m := mcl (mE mtab d 246 [.ref a0] h) 0 2 [some (.ref a0), some (.int a1), none, none] []) rfl ?_
  refine mk_cV ?_
  intro h1
  refine mX_to 4 (k' := 6) (ls' := [some (.ref a0), some (.int a1), some (.int 0), some (.int 0)]) (st' := []) (h' := h1) rfl ?_
  rfl
theorem D_X11_nextGoing_6 (d : Nat) (h : MH) (l0 : Nat) (l1 : Int32) (l2 : Int32) (l3 : Int32) (l4 : Int32) (l5 : Int32) (o6 : Option Value) : mX (mE mtab d) KX11_nextGoing 6 [some (.ref l0), some (.int l1), some (.int l2), some (.int l3), some (.int l4), some (.int l5), o6] [] h = cI (mE mtab d 248 [.int l2] h) (fun x2 h1 => (if l5 < x2 then ck (kd h1 l0 = 12) (cI (mE mtab d 250 [.ref l0, .int l1, .int l5] h1) (fun x4 h3 => (if x4 = (-1) then mX (mE mtab d) KX11_nextGoing 38 [some (.ref l0), some (.int l1), some (.int l2), some (.int l3), some (.int l4), some (.int l5), some (.int x4)] [] h3 else ck (kd h3 l0 = 12) (ck ((kd h3 (gR h3 l0 26) = 20 ∨ kd h3 (gR h3 l0 26) = 24) ∧ ib x4 (ln h3 (gR h3 l0 26))) ((if (gI h3 (gR h3 l0 26) (ix x4)) = (-1) then mX (mE mtab d) KX11_nextGoing 38 [some (.ref l0), some (.int l1), some (.int l2), some (.int l3), some (.int l4), some (.int l5), some (.int x4)] [] h3 else ck (kd h3 l0 = 12) (ck ((kd h3 (gR h3 l0 26) = 20 ∨ kd h3 (gR h3 l0 26) = 24) ∧ ib x4 (ln h3 (gR h3 l0 26))) ((if (gI h3 (gR h3 l0 26) (ix x4)) < l4 then ck (kd h3 l0 = 12) (ck ((kd h3 (gR h3 l0 26) = 20 ∨ kd h3 (gR h3 l0 26) = 24) ∧ ib x4 (ln h3 (gR h3 l0 26))) (lt_ (gI h3 (gR h3 l0 26) (ix x4)) fun v5 => mX (mE mtab d) KX11_nextGoing 38 [some (.ref l0), some (.int l1), some (.int l2), some (.int l5), some (.int v5), some (.int l5), some (.int x4)] [] h3)) else mX (mE mtab d) KX11_nextGoing 38 [some (.ref l0), some (.int l1), some (.int l2), some (.int l3), some (.int l4), some (.int l5), some (.int x4)] [] h3))))))))) else some (.int l3, h1))) := by
  refine mX_to 2 (k' := 8) (ls' := [some (.ref l0), some (.int l1), some (.int l2), some (.int l3), some (.int l4), some (.int l5), o6]) (st' := [.int l2, .int l5]) (h' := h) rfl ?_
  refine mX_cI (o := mE mtab d 248 [.int l2] h) (k' := 9) (ls' := [some (.ref l0), some (.int l1), some (.int l2), some (.int l3), some (.int l4), some (.int l5), o6]) (st' := [.int l5]) rfl ?_
  intro x2 h1
  refine mX_br (t := 10) (f := 40) (ls' := [some (.ref l0), some (.int l1), some (.int l2), some (.int l3), some (.int l4), some (.int l5), o6]) (st' := []) (h' := h1) rfl ?_ ?_
  · refine mX_to 3 (k' := 13) (ls' := [some (.ref l0), some (.int l1), some (.int l2), some (.int l3), some (.int l4), some (.int l5), o6]) (st' := [.int l5, .int l1, .ref l0]) (h' := h1) rfl ?_
    refine mX_ckc (m := mcl (mE mtab d 250 [.ref l0, .int l1, .int l5] h1) 1 14 [some (.ref l0), some (.int l1), some (.int l2), some (.int l3), some (.int l4), some (.int l5), o6] []) rfl ?_
    refine mk_cI ?_
    intro x4 h3
    refine mX_to 3 (k' := 17) (ls' := [some (.ref l0), some (.int l1), some (.int l2), some (.int l3), some (.int l4), some (.int l5), some (.int x4)]) (st' := [.int (-1), .int x4]) (h' := h3) rfl ?_
    refine mX_br (t := 38) (f := 18) (ls' := [some (.ref l0), some (.int l1), some (.int l2), some (.int l3), some (.int l4), some (.int l5), some (.int x4)]) (st' := []) (h' := h3) rfl ?_ ?_
    · rfl
    · refine mX_to 1 (k' := 19) (ls' := [some (.ref l0), some (.int l1), some (.int l2), some (.int l3), some (.int l4), some (.int l5), some (.int x4)]) (st' := [.ref l0]) (h' := h3) rfl ?_
      refine mX_ck (k' := 20) (ls' := [some (.ref l0), some (.int l1), some (.int l2), some (.int l3), some (.int l4), some (.int l5), some (.int x4)]) (st' := [.ref (gR h3 l0 26)]) (h' := h3) rfl ?_
      refine mX_to 1 (k' := 21) (ls' := [some (.ref l0), some (.int l1), some (.int l2), some (.int l3), some (.int l4), some (.int l5), some (.int x4)]) (st' := [.int x4, .ref (gR h3 l0 26)]) (h' := h3) rfl ?_
      refine mX_ck (k' := 22) (ls' := [some (.ref l0), some (.int l1), some (.int l2), some (.int l3), some (.int l4), some (.int l5), some (.int x4)]) (st' := [.int (gI h3 (gR h3 l0 26) (ix x4))]) (h' := h3) rfl ?_
      refine mX_to 1 (k' := 23) (ls' := [some (.ref l0), some (.int l1), some (.int l2), some (.int l3), some (.int l4), some (.int l5), some (.int x4)]) (st' := [.int (-1), .int (gI h3 (gR h3 l0 26) (ix x4))]) (h' := h3) rfl ?_
      refine mX_br (t := 38) (f := 24) (ls' := [some (.ref l0), some (.int l1), some (.int l2), some (.int l3), some (.int l4), some (.int l5), some (.int x4)]) (st' := []) (h' := h3) rfl ?_ ?_
      · rfl
      · refine mX_to 1 (k' := 25) (ls' := [some (.ref l0), some (.int l1), some (.int l2), some (.int l3), some (.int l4), some (.int l5), some (.int x4)]) (st' := [.ref l0]) (h' := h3) rfl ?_
        refine mX_ck (k' := 26) (ls' := [some (.ref l0), some (.int l1), some (.int l2), some (.int l3), some (.int l4), some (.int l5), some (.int x4)]) (st' := [.ref (gR h3 l0 26)]) (h' := h3) rfl ?_
        refine mX_to 1 (k' := 27) (ls' := [some (.ref l0), some (.int l1), some (.int l2), some (.int l3), some (.int l4), some (.int l5), some (.int x4)]) (st' := [.int x4, .ref (gR h3 l0 26)]) (h' := h3) rfl ?_
        refine mX_ck (k' := 28) (ls' := [some (.ref l0), some (.int l1), some (.int l2), some (.int l3), some (.int l4), some (.int l5), some (.int x4)]) (st' := [.int (gI h3 (gR h3 l0 26) (ix x4))]) (h' := h3) rfl ?_
        refine mX_to 1 (k' := 29) (ls' := [some (.ref l0), some (.int l1), some (.int l2), some (.int l3), some (.int l4), some (.int l5), some (.int x4)]) (st' := [.int l4, .int (gI h3 (gR h3 l0 26) (ix x4))]) (h' := h3) rfl ?_
        refine mX_br (t := 31) (f := 30) (ls' := [some (.ref l0), some (.int l1), some (.int l2), some (.int l3), some (.int l4), some (.int l5), some (.int x4)]) (st' := []) (h' := h3) rfl ?_ ?_
        · refine mX_to 1 (k' := 32) (ls' := [some (.ref l0), some (.int l1), some (.int l2), some (.int l3), some (.int l4), some (.int l5), some (.int x4)]) (st' := [.ref l0]) (h' := h3) rfl ?_
          refine mX_ck (k' := 33) (ls' := [some (.ref l0), some (.int l1), some (.int l2), some (.int l3), some (.int l4), some (.int l5), some (.int x4)]) (st' := [.ref (gR h3 l0 26)]) (h' := h3) rfl ?_
          refine mX_to 1 (k' := 34) (ls' := [some (.ref l0), some (.int l1), some (.int l2), some (.int l3), some (.int l4), some (.int l5), some (.int x4)]) (st' := [.int x4, .ref (gR h3 l0 26)]) (h' := h3) rfl ?_
          refine mX_ck (k' := 35) (ls' := [some (.ref l0), some (.int l1), some (.int l2), some (.int l3), some (.int l4), some (.int l5), some (.int x4)]) (st' := [.int (gI h3 (gR h3 l0 26) (ix x4))]) (h' := h3) rfl ?_
          refine lt_gen (X := fun v5 : Int32 => mX (mE mtab d) KX11_nextGoing 35 [some (.ref l0), some (.int l1), some (.int l2), some (.int l3), some (.int l4), some (.int l5), some (.int x4)] [.int v5] h3) fun v5 => ?_
          refine mX_to 3 (k' := 38) (ls' := [some (.ref l0), some (.int l1), some (.int l2), some (.int l5), some (.int v5), some (.int l5), some (.int x4)]) (st' := []) (h' := h3) rfl ?_
          rfl
        · refine mX_to 1 (k' := 38) (ls' := [some (.ref l0), some (.int l1), some (.int l2), some (.int l3), some (.int l4), some (.int l5), some (.int x4)]) (st' := []) (h' := h3) rfl ?_
          rfl
  · refine mX_to 1 (k' := 41) (ls' := [some (.ref l0), some (.int l1), some (.int l2), some (.int l3), some (.int l4), some (.int l5), o6]) (st' := [.int l3]) (h' := h1) rfl ?_
    exact mX_reti rfl
theorem D_X11_nextGoing_38 (d : Nat) (h : MH) (l0 : Nat) (l1 : Int32) (l2 : Int32) (l3 : Int32) (l4 : Int32) (l5 : Int32) (l6 : Int32) : mX (mE mtab d) KX11_nextGoing 38 [some (.ref l0), some (.int l1), some (.int l2), some (.int l3), some (.int l4), some (.int l5), some (.int l6)] [] h = mX (mE mtab d) KX11_nextGoing 6 [some (.ref l0), some (.int l1), some (.int l2), some (.int l3), some (.int l4), some (.int (l5 + 1)), some (.int l6)] [] h := by
  refine mX_to 2 (k' := 6) (ls' := [some (.ref l0), some (.int l1), some (.int l2), some (.int l3), some (.int l4), some (.int (l5 + 1)), some (.int l6)]) (st' := []) (h' := h) rfl ?_
  rfl
theorem D_X11_nextGoing (d : Nat) (h : MH) (a0 : Nat) (a1 : Int32) (a2 : Int32) : mE mtab (d + 1) 253 [.ref a0, .int a1, .int a2] h = mX (mE mtab d) KX11_nextGoing 6 [some (.ref a0), some (.int a1), some (.int a2), some (.int (-1)), some (.int 1000000), some (.int 0), none] [] h := by
  refine mE_eq (q := (yX11_nextGoing, cX11_nextGoing, 7, (some .int), KX11_nextGoing)) (C := KX11_nextGoing) (ls := [some (.ref a0), some (.int a1), some (.int a2), none, none, none, none]) rfl rfl rfl rfl ?_
  refine mX_to 6 (k' := 6) (ls' := [some (.ref a0), some (.int a1), some (.int a2), some (.int (-1)), some (.int 1000000), some (.int 0), none]) (st' := []) (h' := h) rfl ?_
  rfl
theorem D_X11_errands_10 (d : Nat) (h : MH) (l0 : Nat) (l1 : Int32) (l2 : Int32) (l3 : Int32) (l4 : Int32) (l5 : Int32) : mX (mE mtab d) KX11_errands 10 [some (.ref l0), some (.int l1), some (.int l2), some (.int l3), some (.int l4), some (.int l5)] [] h = ck (kd h l0 = 12) (cI (mE mtab d 247 [.ref l0, .int l3] h) (fun x5 h4 => (if x5 = 0 then (if l2 = (-1) then mX (mE mtab d) KX11_errands 20 [some (.ref l0), some (.int l1), some (.int l2), some (.int l3), some (.int l4), some (.int l5)] [] h4 else (if l4 ≤ l2 then mX (mE mtab d) KX11_errands 20 [some (.ref l0), some (.int l1), some (.int l2), some (.int l3), some (.int l4), some (.int l5)] [] h4 else mX (mE mtab d) KX11_errands 37 [some (.ref l0), some (.int l1), some (.int l2), some (.int l3), some (.int l4), some (.int l5)] [] h4)) else mX (mE mtab d) KX11_errands 37 [some (.ref l0), some (.int l1), some (.int l2), some (.int l3), some (.int l4), some (.int l5)] [] h4))) := by
  refine mX_to 2 (k' := 12) (ls' := [some (.ref l0), some (.int l1), some (.int l2), some (.int l3), some (.int l4), some (.int l5)]) (st' := [.int l3, .ref l0]) (h' := h) rfl ?_
  refine mX_ckc (m := mcl (mE mtab d 247 [.ref l0, .int l3] h) 1 13 [some (.ref l0), some (.int l1), some (.int l2), some (.int l3), some (.int l4), some (.int l5)] []) rfl ?_
  refine mk_cI ?_
  intro x5 h4
  refine mX_br (t := 14) (f := 37) (ls' := [some (.ref l0), some (.int l1), some (.int l2), some (.int l3), some (.int l4), some (.int l5)]) (st' := []) (h' := h4) rfl ?_ ?_
  · refine mX_to 2 (k' := 16) (ls' := [some (.ref l0), some (.int l1), some (.int l2), some (.int l3), some (.int l4), some (.int l5)]) (st' := [.int (-1), .int l2]) (h' := h4) rfl ?_
    refine mX_br (t := 20) (f := 17) (ls' := [some (.ref l0), some (.int l1), some (.int l2), some (.int l3), some (.int l4), some (.int l5)]) (st' := []) (h' := h4) rfl ?_ ?_
    · rfl
    · refine mX_to 2 (k' := 19) (ls' := [some (.ref l0), some (.int l1), some (.int l2), some (.int l3), some (.int l4), some (.int l5)]) (st' := [.int l2, .int l4]) (h' := h4) rfl ?_
      refine mX_br (t := 20) (f := 37) (ls' := [some (.ref l0), some (.int l1), some (.int l2), some (.int l3), some (.int l4), some (.int l5)]) (st' := []) (h' := h4) rfl ?_ ?_
      · rfl
      · rfl
  · rfl
theorem D_X11_errands_20 (d : Nat) (h : MH) (l0 : Nat) (l1 : Int32) (l2 : Int32) (l3 : Int32) (l4 : Int32) (l5 : Int32) : mX (mE mtab d) KX11_errands 20 [some (.ref l0), some (.int l1), some (.int l2), some (.int l3), some (.int l4), some (.int l5)] [] h = ck (kd h l0 = 12) (cI (mE mtab d 253 [.ref l0, .int l3, .int l1] h) (fun x7 h6 => (if x7 = (-1) then some (.int (-2), h6) else ck (kd h6 l0 = 12) (cI (mE mtab d 250 [.ref l0, .int l3, .int x7] h6) (fun x9 h8 => mX (mE mtab d) KX11_errands 10 [some (.ref l0), some (.int l1), some (.int l2), some (.int x9), some (.int (l4 + 1)), some (.int x7)] [] h8))))) := by
  refine mX_to 3 (k' := 23) (ls' := [some (.ref l0), some (.int l1), some (.int l2), some (.int l3), some (.int l4), some (.int l5)]) (st' := [.int l1, .int l3, .ref l0]) (h' := h) rfl ?_
  refine mX_ckc (m := mcl (mE mtab d 253 [.ref l0, .int l3, .int l1] h) 1 24 [some (.ref l0), some (.int l1), some (.int l2), some (.int l3), some (.int l4), some (.int l5)] []) rfl ?_
  refine mk_cI ?_
  intro x7 h6
  refine mX_to 3 (k' := 27) (ls' := [some (.ref l0), some (.int l1), some (.int l2), some (.int l3), some (.int l4), some (.int x7)]) (st' := [.int (-1), .int x7]) (h' := h6) rfl ?_
  refine mX_br (t := 28) (f := 30) (ls' := [some (.ref l0), some (.int l1), some (.int l2), some (.int l3), some (.int l4), some (.int x7)]) (st' := []) (h' := h6) rfl ?_ ?_
  · refine mX_to 1 (k' := 29) (ls' := [some (.ref l0), some (.int l1), some (.int l2), some (.int l3), some (.int l4), some (.int x7)]) (st' := [.int (-2)]) (h' := h6) rfl ?_
    exact mX_reti rfl
  · refine mX_to 3 (k' := 33) (ls' := [some (.ref l0), some (.int l1), some (.int l2), some (.int l3), some (.int l4), some (.int x7)]) (st' := [.int x7, .int l3, .ref l0]) (h' := h6) rfl ?_
    refine mX_ckc (m := mcl (mE mtab d 250 [.ref l0, .int l3, .int x7] h6) 1 34 [some (.ref l0), some (.int l1), some (.int l2), some (.int l3), some (.int l4), some (.int x7)] []) rfl ?_
    refine mk_cI ?_
    intro x9 h8
    refine mX_to 3 (k' := 10) (ls' := [some (.ref l0), some (.int l1), some (.int l2), some (.int x9), some (.int (l4 + 1)), some (.int x7)]) (st' := []) (h' := h8) rfl ?_
    rfl
theorem D_X11_errands_37 (d : Nat) (h : MH) (l0 : Nat) (l1 : Int32) (l2 : Int32) (l3 : Int32) (l4 : Int32) (l5 : Int32) : mX (mE mtab d) KX11_errands 37 [some (.ref l0), some (.int l1), some (.int l2), some (.int l3), some (.int l4), some (.int l5)] [] h = (if l2 = (-1) then some (.int l4, h) else (if l2 < 0 then some (.int (-2), h) else (if l4 = (l2 + 1) then some (.int l5, h) else some (.int (-2), h)))) := by
  refine mX_to 2 (k' := 39) (ls' := [some (.ref l0), some (.int l1), some (.int l2), some (.int l3), some (.int l4), some (.int l5)]) (st' := [.int (-1), .int l2]) (h' := h) rfl ?_
  refine mX_br (t := 40) (f := 42) (ls' := [some (.ref l0), some (.int l1), some (.int l2), some (.int l3), some (.int l4), some (.int l5)]) (st' := []) (h' := h) rfl ?_ ?_
  · refine mX_to 2 (k' := 52) (ls' := [some (.ref l0), some (.int l1), some (.int l2), some (.int l3), some (.int l4), some (.int l5)]) (st' := [.int l4]) (h' := h) rfl ?_
    exact mX_reti rfl
  · refine mX_to 1 (k' := 43) (ls' := [some (.ref l0), some (.int l1), some (.int l2), some (.int l3), some (.int l4), some (.int l5)]) (st' := [.int l2]) (h' := h) rfl ?_
    refine mX_br (t := 51) (f := 44) (ls' := [some (.ref l0), some (.int l1), some (.int l2), some (.int l3), some (.int l4), some (.int l5)]) (st' := []) (h' := h) rfl ?_ ?_
    · refine mX_to 1 (k' := 52) (ls' := [some (.ref l0), some (.int l1), some (.int l2), some (.int l3), some (.int l4), some (.int l5)]) (st' := [.int (-2)]) (h' := h) rfl ?_
      exact mX_reti rfl
    · refine mX_to 4 (k' := 48) (ls' := [some (.ref l0), some (.int l1), some (.int l2), some (.int l3), some (.int l4), some (.int l5)]) (st' := [.int (l2 + 1), .int l4]) (h' := h) rfl ?_
      refine mX_br (t := 49) (f := 51) (ls' := [some (.ref l0), some (.int l1), some (.int l2), some (.int l3), some (.int l4), some (.int l5)]) (st' := []) (h' := h) rfl ?_ ?_
      · refine mX_to 2 (k' := 52) (ls' := [some (.ref l0), some (.int l1), some (.int l2), some (.int l3), some (.int l4), some (.int l5)]) (st' := [.int l5]) (h' := h) rfl ?_
        exact mX_reti rfl
      · refine mX_to 1 (k' := 52) (ls' := [some (.ref l0), some (.int l1), some (.int l2), some (.int l3), some (.int l4), some (.int l5)]) (st' := [.int (-2)]) (h' := h) rfl ?_
        exact mX_reti rfl
theorem D_X11_errands (d : Nat) (h : MH) (a0 : Nat) (a1 : Int32) (a2 : Int32) : mE mtab (d + 1) 254 [.ref a0, .int a1, .int a2] h = ck (kd h a0 = 12) (cV (mE mtab d 252 [.ref a0, .int a1] h) (fun h1 => ck (kd h1 a0 = 12) (cI (mE mtab d 243 [.ref a0] h1) (fun x3 h2 => mX (mE mtab d) KX11_errands 10 [some (.ref a0), some (.int a1), some (.int a2), some (.int x3), some (.int 0), some (.int (-1))] [] h2)))) := by
  refine mE_eq (q := (yX11_errands, cX11_errands, 6, (some .int), KX11_errands)) (C := KX11_errands) (ls := [some (.ref a0), some (.int a1), some (.int a2), none, none, none]) rfl rfl rfl rfl ?_
  refine mX_to 2 (k' := 2) (ls' := [some (.ref a0), some (.int a1), some (.int a2), none, none, none]) (st' := [.int a1, .ref a0]) (h' := h) rfl ?_
  refine mX_ckc (m := mcl (mE mtab d 252 [.ref a0, .int a1] h) 0 3 [some (.ref a0), some (.int a1), some (.int a2), none, none, none] []) rfl ?_
  refine mk_cV ?_
  intro h1
  refine mX_to 1 (k' := 4) (ls' := [some (.ref a0), some (.int a1), some (.int a2), none, none, none]) (st' := [.ref a0]) (h' := h1) rfl ?_
  refine mX_ckc (m := mcl (mE mtab d 243 [.ref a0] h1) 1 5 [some (.ref a0), some (.int a1), some (.int a2), none, none, none] []) rfl ?_
  refine mk_cI ?_
  intro x3 h2
  refine mX_to 5 (k' := 10) (ls' := [some (.ref a0), some (.int a1), some (.int a2), some (.int x3), some (.int 0), some (.int (-1))]) (st' := []) (h' := h2) rfl ?_
  rfl
theorem D_X10_where (d : Nat) (h : MH) (a0 : Nat) (a1 : Int32) : mE mtab (d + 1) 255 [.ref a0, .int a1] h = ck (kd h a0 = 11) (ck (kd h a0 = 11) (ck (kd h (gR h a0 0) = 1) (ck (kd h (gR h a0 2) = 10) (cV (mE mtab d 225 [.ref (gR h a0 2), .ref (gR h (gR h a0 0) 0)] h) (fun h1 => ck (kd h1 a0 = 11) (ck (kd h1 a0 = 11) (ck (kd h1 (gR h1 a0 5) = 6) (cV (mE mtab d 239 [.ref (gR h1 a0 5), .ref (gR h1 a0 2), .int a1, .int 0] h1) (fun h2 => ck (kd h2 a0 = 11) (ck (kd h2 (gR h2 a0 5) = 6) (some (.int (gI h2 (gR h2 a0 5) 2), h2)))))))))))) := by
  refine mE_eq (q := (yX10_where, cX10_where, 2, (some .int), KX10_where)) (C := KX10_where) (ls := [some (.ref a0), some (.int a1)]) rfl rfl rfl rfl ?_
  refine mX_to 1 (k' := 1) (ls' := [some (.ref a0), some (.int a1)]) (st' := [.ref a0]) (h' := h) rfl ?_
  refine mX_ck (k' := 2) (ls' := [some (.ref a0), some (.int a1)]) (st' := [.ref (gR h a0 2)]) (h' := h) rfl ?_
  refine mX_to 1 (k' := 3) (ls' := [some (.ref a0), some (.int a1)]) (st' := [.ref a0, .ref (gR h a0 2)]) (h' := h) rfl ?_
  refine mX_ck (k' := 4) (ls' := [some (.ref a0), some (.int a1)]) (st' := [.ref (gR h a0 0), .ref (gR h a0 2)]) (h' := h) rfl ?_
  refine mX_ck (k' := 5) (ls' := [some (.ref a0), some (.int a1)]) (st' := [.ref (gR h (gR h a0 0) 0), .ref (gR h a0 2)]) (h' := h) rfl ?_
  refine mX_ckc (m := mcl (mE mtab d 225 [.ref (gR h a0 2), .ref (gR h (gR h a0 0) 0)] h) 0 6 [some (.ref a0), some (.int a1)] []) rfl ?_
  refine mk_cV ?_
  intro h1
  refine mX_to 1 (k' := 7) (ls' := [some (.ref a0), some (.int a1)]) (st' := [.ref a0]) (h' := h1) rfl ?_
  refine mX_ck (k' := 8) (ls' := [some (.ref a0), some (.int a1)]) (st' := [.ref (gR h1 a0 5)]) (h' := h1) rfl ?_
  refine mX_to 1 (k' := 9) (ls' := [some (.ref a0), some (.int a1)]) (st' := [.ref a0, .ref (gR h1 a0 5)]) (h' := h1) rfl ?_
  refine mX_ck (k' := 10) (ls' := [some (.ref a0), some (.int a1)]) (st' := [.ref (gR h1 a0 2), .ref (gR h1 a0 5)]) (h' := h1) rfl ?_
  refine mX_to 2 (k' := 12) (ls' := [some (.ref a0), some (.int a1)]) (st' := [.int 0, .int a1, .ref (gR h1 a0 2), .ref (gR h1 a0 5)]) (h' := h1) rfl ?_
  refine mX_ckc (m := mcl (mE mtab d 239 [.ref (gR h1 a0 5), .ref (gR h1 a0 2), .int a1, .int 0] h1) 0 13 [some (.ref a0), some (.int a1)] []) rfl ?_
  refine mk_cV ?_
  intro h2
  refine mX_to 1 (k' := 14) (ls' := [some (.ref a0), some (.int a1)]) (st' := [.ref a0]) (h' := h2) rfl ?_
  refine mX_ck (k' := 15) (ls' := [some (.ref a0), some (.int a1)]) (st' := [.ref (gR h2 a0 5)]) (h' := h2) rfl ?_
  refine mX_ck (k' := 16) (ls' := [some (.ref a0), some (.int a1)]) (st' := [.int (gI h2 (gR h2 a0 5) 2)]) (h' := h2) rfl ?_
  exact mX_reti rfl
theorem D_X11_where_4 (d : Nat) (h : MH) (l0 : Nat) (l1 : Int32) (l2 : Int32) : mX (mE mtab d) KX11_where 4 [some (.ref l0), some (.int l1), some (.int l2)] [] h = ck (kd h l0 = 12) (ck ((kd h (gR h l0 0) = 20 ∨ kd h (gR h l0 0) = 24) ∧ ib (0 : Int32) (ln h (gR h l0 0))) (cI (mE mtab d 244 [.int (gI h (gR h l0 0) (ix (0 : Int32)))] h) (fun x3 h2 => (if l2 < x3 then ck (kd h2 l0 = 12) (ck (kd h2 (gR h2 l0 26) = 20 ∧ ib l2 (ln h2 (gR h2 l0 26))) (lt_ (sI h2 (gR h2 l0 26) (ix l2) (-1)) fun h4 => mX (mE mtab d) KX11_where 4 [some (.ref l0), some (.int l1), some (.int (l2 + 1))] [] h4)) else ck (kd h2 l0 = 12) (ck (kd h2 l0 = 12) (cI (mE mtab d 243 [.ref l0] h2) (fun x7 h6 => ck (kd h6 (gR h2 l0 27) = 20 ∧ ib (0 : Int32) (ln h6 (gR h2 l0 27))) (lt_ (sI h6 (gR h2 l0 27) (ix (0 : Int32)) x7) fun h8 => ck (kd h8 l0 = 12) (ck (kd h8 l0 = 12) (cI (mE mtab d 243 [.ref l0] h8) (fun x10 h9 => ck (kd h9 (gR h8 l0 26) = 20 ∧ ib x10 (ln h9 (gR h8 l0 26))) (lt_ (sI h9 (gR h8 l0 26) (ix x10) 0) fun h11 => cI (mE mtab d 248 [.int l1] h11) (fun x13 h12 => ck (kd h12 l0 = 12) (cI (mE mtab d 251 [.ref l0, .int 1, .int x13] h12) (fun x15 h14 => some (.int x15, h14)))))))))))))))) := by
  refine mX_to 2 (k' := 6) (ls' := [some (.ref l0), some (.int l1), some (.int l2)]) (st' := [.ref l0, .int l2]) (h' := h) rfl ?_
  refine mX_ck (k' := 7) (ls' := [some (.ref l0), some (.int l1), some (.int l2)]) (st' := [.ref (gR h l0 0), .int l2]) (h' := h) rfl ?_
  refine mX_to 1 (k' := 8) (ls' := [some (.ref l0), some (.int l1), some (.int l2)]) (st' := [.int 0, .ref (gR h l0 0), .int l2]) (h' := h) rfl ?_
  refine mX_ck (k' := 9) (ls' := [some (.ref l0), some (.int l1), some (.int l2)]) (st' := [.int (gI h (gR h l0 0) (ix (0 : Int32))), .int l2]) (h' := h) rfl ?_
  refine mX_cI (o := mE mtab d 244 [.int (gI h (gR h l0 0) (ix (0 : Int32)))] h) (k' := 10) (ls' := [some (.ref l0), some (.int l1), some (.int l2)]) (st' := [.int l2]) rfl ?_
  intro x3 h2
  refine mX_br (t := 11) (f := 18) (ls' := [some (.ref l0), some (.int l1), some (.int l2)]) (st' := []) (h' := h2) rfl ?_ ?_
  · refine mX_to 1 (k' := 12) (ls' := [some (.ref l0), some (.int l1), some (.int l2)]) (st' := [.ref l0]) (h' := h2) rfl ?_
    refine mX_ck (k' := 13) (ls' := [some (.ref l0), some (.int l1), some (.int l2)]) (st' := [.ref (gR h2 l0 26)]) (h' := h2) rfl ?_
    refine mX_to 2 (k' := 15) (ls' := [some (.ref l0), some (.int l1), some (.int l2)]) (st' := [.int (-1), .int l2, .ref (gR h2 l0 26)]) (h' := h2) rfl ?_
    refine mX_ck (k' := 16) (ls' := [some (.ref l0), some (.int l1), some (.int l2)]) (st' := []) (h' := (sI h2 (gR h2 l0 26) (ix l2) (-1))) rfl ?_
    refine lt_gen (X := fun h4 : MH => mX (mE mtab d) KX11_where 16 [some (.ref l0), some (.int l1), some (.int l2)] [] h4) fun h4 => ?_
    refine mX_to 2 (k' := 4) (ls' := [some (.ref l0), some (.int l1), some (.int (l2 + 1))]) (st' := []) (h' := h4) rfl ?_
    rfl
  · refine mX_to 1 (k' := 19) (ls' := [some (.ref l0), some (.int l1), some (.int l2)]) (st' := [.ref l0]) (h' := h2) rfl ?_
    refine mX_ck (k' := 20) (ls' := [some (.ref l0), some (.int l1), some (.int l2)]) (st' := [.ref (gR h2 l0 27)]) (h' := h2) rfl ?_
    refine mX_to 2 (k' := 22) (ls' := [some (.ref l0), some (.int l1), some (.int l2)]) (st' := [.ref l0, .int 0, .ref (gR h2 l0 27)]) (h' := h2) rfl ?_
    refine mX_ckc (m := mcl (mE mtab d 243 [.ref l0] h2) 1 23 [some (.ref l0), some (.int l1), some (.int l2)] [.int 0, .ref (gR h2 l0 27)]) rfl ?_
    refine mk_cI ?_
    intro x7 h6
    refine mX_ck (k' := 24) (ls' := [some (.ref l0), some (.int l1), some (.int l2)]) (st' := []) (h' := (sI h6 (gR h2 l0 27) (ix (0 : Int32)) x7)) rfl ?_
    refine lt_gen (X := fun h8 : MH => mX (mE mtab d) KX11_where 24 [some (.ref l0), some (.int l1), some (.int l2)] [] h8) fun h8 => ?_
    refine mX_to 1 (k' := 25) (ls' := [some (.ref l0), some (.int l1), some (.int l2)]) (st' := [.ref l0]) (h' := h8) rfl ?_
    refine mX_ck (k' := 26) (ls' := [some (.ref l0), some (.int l1), some (.int l2)]) (st' := [.ref (gR h8 l0 26)]) (h' := h8) rfl ?_
    refine mX_to 1 (k' := 27) (ls' := [some (.ref l0), some (.int l1), some (.int l2)]) (st' := [.ref l0, .ref (gR h8 l0 26)]) (h' := h8) rfl ?_
    refine mX_ckc (m := mcl (mE mtab d 243 [.ref l0] h8) 1 28 [some (.ref l0), some (.int l1), some (.int l2)] [.ref (gR h8 l0 26)]) rfl ?_
    refine mk_cI ?_
    intro x10 h9
    refine mX_to 1 (k' := 29) (ls' := [some (.ref l0), some (.int l1), some (.int l2)]) (st' := [.int 0, .int x10, .ref (gR h8 l0 26)]) (h' := h9) rfl ?_
    refine mX_ck (k' := 30) (ls' := [some (.ref l0), some (.int l1), some (.int l2)]) (st' := []) (h' := (sI h9 (gR h8 l0 26) (ix x10) 0)) rfl ?_
    refine lt_gen (X := fun h11 : MH => mX (mE mtab d) KX11_where 30 [some (.ref l0), some (.int l1), some (.int l2)] [] h11) fun h11 => ?_
    refine mX_to 3 (k' := 33) (ls' := [some (.ref l0), some (.int l1), some (.int l2)]) (st' := [.int l1, .int 1, .ref l0]) (h' := h11) rfl ?_
    refine mX_cI (o := mE mtab d 248 [.int l1] h11) (k' := 34) (ls' := [some (.ref l0), some (.int l1), some (.int l2)]) (st' := [.int 1, .ref l0]) rfl ?_
    intro x13 h12
    refine mX_ckc (m := mcl (mE mtab d 251 [.ref l0, .int 1, .int x13] h12) 1 35 [some (.ref l0), some (.int l1), some (.int l2)] []) rfl ?_
    refine mk_cI ?_
    intro x15 h14
    exact mX_reti rfl
theorem D_X11_where (d : Nat) (h : MH) (a0 : Nat) (a1 : Int32) : mE mtab (d + 1) 256 [.ref a0, .int a1] h = ck (kd h a0 = 12) (cV (mE mtab d 246 [.ref a0] h) (fun h1 => mX (mE mtab d) KX11_where 4 [some (.ref a0), some (.int a1), some (.int 0)] [] h1)) := by
  refine mE_eq (q := (yX11_where, cX11_where, 3, (some .int), KX11_where)) (C := KX11_where) (ls := [some (.ref a0), some (.int a1), none]) rfl rfl rfl rfl ?_
  refine mX_to 1 (k' := 1) (ls' := [some (.ref a0), some (.int a1), none]) (st' := [.ref a0]) (h' := h) rfl ?_
  refine mX_ckc (m := mcl (mE mtab d 246 [.ref a0] h) 0 2 [some (.ref a0), some (.int a1), none] []) rfl ?_
  refine mk_cV ?_
  intro h1
  refine mX_to 2 (k' := 4) (ls' := [some (.ref a0), some (.int a1), some (.int 0)]) (st' := []) (h' := h1) rfl ?_
  rfl
theorem D_X10_holds (d : Nat) (h : MH) (a0 : Int32) (a1 : Int32) : mE mtab (d + 1) 257 [.int a0, .int a1] h = (if ((a0 >>> (a1 &&& 31)) &&& 1) = 1 then some (.int 1, h) else some (.int 0, h)) := by
  refine mE_eq (q := (yX10_holds, cX10_holds, 2, (some .boolean), KX10_holds)) (C := KX10_holds) (ls := [some (.int a0), some (.int a1)]) rfl rfl rfl rfl ?_
  refine mX_to 6 (k' := 6) (ls' := [some (.int a0), some (.int a1)]) (st' := [.int 1, .int ((a0 >>> (a1 &&& 31)) &&& 1)]) (h' := h) rfl ?_
  refine mX_br (t := 7) (f := 9) (ls' := [some (.int a0), some (.int a1)]) (st' := []) (h' := h) rfl ?_ ?_
  · refine mX_to 2 (k' := 10) (ls' := [some (.int a0), some (.int a1)]) (st' := [.int 1]) (h' := h) rfl ?_
    exact mX_retb (by decide) rfl
  · refine mX_to 1 (k' := 10) (ls' := [some (.int a0), some (.int a1)]) (st' := [.int 0]) (h' := h) rfl ?_
    exact mX_retb (by decide) rfl
theorem D_X2_wageOf_4 (d : Nat) (h : MH) (l0 : Nat) (l1 : Int32) (l2 : Int32) (l3 : Int32) : mX (mE mtab d) KX2_wageOf 4 [some (.ref l0), some (.int l1), some (.int l2), some (.int l3)] [] h = ck (kd h l0 = 3) ((if l3 < (gI h l0 3) then cI (mE mtab d 257 [.int l1, .int l3] h) (fun x2 h1 => (if x2 = 0 then mX (mE mtab d) KX2_wageOf 19 [some (.ref l0), some (.int l1), some (.int l2), some (.int l3)] [] h1 else ck (kd h1 l0 = 3) (ck ((kd h1 (gR h1 l0 1) = 20 ∨ kd h1 (gR h1 l0 1) = 24) ∧ ib l3 (ln h1 (gR h1 l0 1))) (lt_ (l2 + (gI h1 (gR h1 l0 1) (ix l3))) fun v3 => mX (mE mtab d) KX2_wageOf 19 [some (.ref l0), some (.int l1), some (.int v3), some (.int l3)] [] h1)))) else some (.int l2, h))) := by
  refine mX_to 2 (k' := 6) (ls' := [some (.ref l0), some (.int l1), some (.int l2), some (.int l3)]) (st' := [.ref l0, .int l3]) (h' := h) rfl ?_
  refine mX_ck (k' := 7) (ls' := [some (.ref l0), some (.int l1), some (.int l2), some (.int l3)]) (st' := [.int (gI h l0 3), .int l3]) (h' := h) rfl ?_
  refine mX_br (t := 8) (f := 21) (ls' := [some (.ref l0), some (.int l1), some (.int l2), some (.int l3)]) (st' := []) (h' := h) rfl ?_ ?_
  · refine mX_to 2 (k' := 10) (ls' := [some (.ref l0), some (.int l1), some (.int l2), some (.int l3)]) (st' := [.int l3, .int l1]) (h' := h) rfl ?_
    refine mX_cI (o := mE mtab d 257 [.int l1, .int l3] h) (k' := 11) (ls' := [some (.ref l0), some (.int l1), some (.int l2), some (.int l3)]) (st' := []) rfl ?_
    intro x2 h1
    refine mX_br (t := 19) (f := 12) (ls' := [some (.ref l0), some (.int l1), some (.int l2), some (.int l3)]) (st' := []) (h' := h1) rfl ?_ ?_
    · rfl
    · refine mX_to 2 (k' := 14) (ls' := [some (.ref l0), some (.int l1), some (.int l2), some (.int l3)]) (st' := [.ref l0, .int l2]) (h' := h1) rfl ?_
      refine mX_ck (k' := 15) (ls' := [some (.ref l0), some (.int l1), some (.int l2), some (.int l3)]) (st' := [.ref (gR h1 l0 1), .int l2]) (h' := h1) rfl ?_
      refine mX_to 1 (k' := 16) (ls' := [some (.ref l0), some (.int l1), some (.int l2), some (.int l3)]) (st' := [.int l3, .ref (gR h1 l0 1), .int l2]) (h' := h1) rfl ?_
      refine mX_ck (k' := 17) (ls' := [some (.ref l0), some (.int l1), some (.int l2), some (.int l3)]) (st' := [.int (gI h1 (gR h1 l0 1) (ix l3)), .int l2]) (h' := h1) rfl ?_
      refine mX_to 1 (k' := 18) (ls' := [some (.ref l0), some (.int l1), some (.int l2), some (.int l3)]) (st' := [.int (l2 + (gI h1 (gR h1 l0 1) (ix l3)))]) (h' := h1) rfl ?_
      refine lt_gen (X := fun v3 : Int32 => mX (mE mtab d) KX2_wageOf 18 [some (.ref l0), some (.int l1), some (.int l2), some (.int l3)] [.int v3] h1) fun v3 => ?_
      refine mX_to 1 (k' := 19) (ls' := [some (.ref l0), some (.int l1), some (.int v3), some (.int l3)]) (st' := []) (h' := h1) rfl ?_
      rfl
  · refine mX_to 1 (k' := 22) (ls' := [some (.ref l0), some (.int l1), some (.int l2), some (.int l3)]) (st' := [.int l2]) (h' := h) rfl ?_
    exact mX_reti rfl
theorem D_X2_wageOf_19 (d : Nat) (h : MH) (l0 : Nat) (l1 : Int32) (l2 : Int32) (l3 : Int32) : mX (mE mtab d) KX2_wageOf 19 [some (.ref l0), some (.int l1), some (.int l2), some (.int l3)] [] h = mX (mE mtab d) KX2_wageOf 4 [some (.ref l0), some (.int l1), some (.int l2), some (.int (l3 + 1))] [] h := by
  refine mX_to 2 (k' := 4) (ls' := [some (.ref l0), some (.int l1), some (.int l2), some (.int (l3 + 1))]) (st' := []) (h' := h) rfl ?_
  rfl
theorem D_X2_wageOf (d : Nat) (h : MH) (a0 : Nat) (a1 : Int32) : mE mtab (d + 1) 258 [.ref a0, .int a1] h = mX (mE mtab d) KX2_wageOf 4 [some (.ref a0), some (.int a1), some (.int 0), some (.int 0)] [] h := by
  refine mE_eq (q := (yX2_wageOf, cX2_wageOf, 4, (some .int), KX2_wageOf)) (C := KX2_wageOf) (ls := [some (.ref a0), some (.int a1), none, none]) rfl rfl rfl rfl ?_
  refine mX_to 4 (k' := 4) (ls' := [some (.ref a0), some (.int a1), some (.int 0), some (.int 0)]) (st' := []) (h' := h) rfl ?_
  rfl
