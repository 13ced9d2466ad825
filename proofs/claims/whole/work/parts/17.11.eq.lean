/-! EQUATIONS OF THE METHODS (written by wip/gen/dgen.py) -/
theorem D_X11_tipsNow (d : Nat) (h : MH) (a0 : Nat) : mE mtab (d + 1) 172 [.ref a0] h = ck (kd h a0 = 12) (cV (mE mtab d 160 [.ref a0] h) (fun h1 => ck (kd h1 a0 = 12) (ck ((kd h1 (gR h1 a0 0) = 20 ∨ kd h1 (gR h1 a0 0) = 24) ∧ ib (3 : Int32) (ln h1 (gR h1 a0 0))) (ck (kd h1 a0 = 12) (cI (mE mtab d 171 [.ref a0, .int (gI h1 (gR h1 a0 0) (ix (3 : Int32))), .int 0, .int 9, .int 99] h1) (fun x3 h2 => some (.int x3, h2))))))) := by
  refine mE_eq (q := (yX11_tipsNow, cX11_tipsNow, 1, (some .int), KX11_tipsNow)) (C := KX11_tipsNow) (ls := [some (.ref a0)]) rfl rfl rfl rfl ?_
  refine mX_to 1 (k' := 1) (ls' := [some (.ref a0)]) (st' := [.ref a0]) (h' := h) rfl ?_
  refine mX_ckc (m := mcl (mE mtab d 160 [.ref a0] h) 0 2 [some (.ref a0)] []) rfl ?_
  refine mk_cV ?_
  intro h1
  refine mX_to 2 (k' := 4) (ls' := [some (.ref a0)]) (st' := [.ref a0, .ref a0]) (h' := h1) rfl ?_
  refine mX_ck (k' := 5) (ls' := [some (.ref a0)]) (st' := [.ref (gR h1 a0 0), .ref a0]) (h' := h1) rfl ?_
  refine mX_to 1 (k' := 6) (ls' := [some (.ref a0)]) (st' := [.int 3, .ref (gR h1 a0 0), .ref a0]) (h' := h1) rfl ?_
  refine mX_ck (k' := 7) (ls' := [some (.ref a0)]) (st' := [.int (gI h1 (gR h1 a0 0) (ix (3 : Int32))), .ref a0]) (h' := h1) rfl ?_
  refine mX_to 3 (k' := 10) (ls' := [some (.ref a0)]) (st' := [.int 99, .int 9, .int 0, .int (gI h1 (gR h1 a0 0) (ix (3 : Int32))), .ref a0]) (h' := h1) rfl ?_
  refine mX_ckc (m := mcl (mE mtab d 171 [.ref a0, .int (gI h1 (gR h1 a0 0) (ix (3 : Int32))), .int 0, .int 9, .int 99] h1) 1 11 [some (.ref a0)] []) rfl ?_
  refine mk_cI ?_
  intro x3 h2
  exact mX_reti rfl
theorem D_X11_isFar (d : Nat) (h : MH) (a0 : Nat) : mE mtab (d + 1) 173 [.ref a0] h = ck (kd h a0 = 12) (cI (mE mtab d 156 [.ref a0] h) (fun x2 h1 => cI (mE mtab d 157 [.int x2] h1) (fun x4 h3 => ck (kd h3 a0 = 12) (cI (mE mtab d 172 [.ref a0] h3) (fun x6 h5 => (if x4 ≤ x6 then some (.int 0, h5) else some (.int 1, h5))))))) := by
  refine mE_eq (q := (yX11_isFar, cX11_isFar, 1, (some .boolean), KX11_isFar)) (C := KX11_isFar) (ls := [some (.ref a0)]) rfl rfl rfl rfl ?_
  refine mX_to 1 (k' := 1) (ls' := [some (.ref a0)]) (st' := [.ref a0]) (h' := h) rfl ?_
  refine mX_ckc (m := mcl (mE mtab d 156 [.ref a0] h) 1 2 [some (.ref a0)] []) rfl ?_
  refine mk_cI ?_
  intro x2 h1
  refine mX_cI (o := mE mtab d 157 [.int x2] h1) (k' := 3) (ls' := [some (.ref a0)]) (st' := []) rfl ?_
  intro x4 h3
  refine mX_to 1 (k' := 4) (ls' := [some (.ref a0)]) (st' := [.ref a0, .int x4]) (h' := h3) rfl ?_
  refine mX_ckc (m := mcl (mE mtab d 172 [.ref a0] h3) 1 5 [some (.ref a0)] [.int x4]) rfl ?_
  refine mk_cI ?_
  intro x6 h5
  refine mX_br (t := 8) (f := 6) (ls' := [some (.ref a0)]) (st' := []) (h' := h5) rfl ?_ ?_
  · refine mX_to 1 (k' := 9) (ls' := [some (.ref a0)]) (st' := [.int 0]) (h' := h5) rfl ?_
    exact mX_retb (by decide) rfl
  · refine mX_to 2 (k' := 9) (ls' := [some (.ref a0)]) (st' := [.int 1]) (h' := h5) rfl ?_
    exact mX_retb (by decide) rfl
theorem D_X11_canWalk_17 (d : Nat) (h : MH) (l0 : Nat) (l1 : Int32) (l2 : Int32) (s0 : Int32) : mX (mE mtab d) KX11_canWalk 17 [some (.ref l0), some (.int l1), some (.int l2), none] [.int s0] h = (if l2 = 0 then mX (mE mtab d) KX11_canWalk 25 [some (.ref l0), some (.int l1), some (.int l2), some (.int s0)] [.int 1, .int l1, .ref l0] h else mX (mE mtab d) KX11_canWalk 25 [some (.ref l0), some (.int l1), some (.int l2), some (.int s0)] [.int 0, .int l1, .ref l0] h) := by
  refine mX_to 4 (k' := 21) (ls' := [some (.ref l0), some (.int l1), some (.int l2), some (.int s0)]) (st' := [.int l2, .int l1, .ref l0]) (h' := h) rfl ?_
  refine mX_br (t := 22) (f := 24) (ls' := [some (.ref l0), some (.int l1), some (.int l2), some (.int s0)]) (st' := [.int l1, .ref l0]) (h' := h) rfl ?_ ?_
  · refine mX_to 2 (k' := 25) (ls' := [some (.ref l0), some (.int l1), some (.int l2), some (.int s0)]) (st' := [.int 1, .int l1, .ref l0]) (h' := h) rfl ?_
    rfl
  · refine mX_to 1 (k' := 25) (ls' := [some (.ref l0), some (.int l1), some (.int l2), some (.int s0)]) (st' := [.int 0, .int l1, .ref l0]) (h' := h) rfl ?_
    rfl
theorem D_X11_canWalk_25 (d : Nat) (h : MH) (l0 : Nat) (l1 : Int32) (l2 : Int32) (l3 : Int32) (s0 : Int32) (s1 : Int32) (s2 : Nat) : mX (mE mtab d) KX11_canWalk 25 [some (.ref l0), some (.int l1), some (.int l2), some (.int l3)] [.int s0, .int s1, .ref s2] h = ck (kd h s2 = 12) (cV (mE mtab d 153 [.ref s2, .int s1, .int s0] h) (fun h6 => ck (mrt 1 l3) (some (.int l3, h6)))) := by
  refine mX_ckc (m := mcl (mE mtab d 153 [.ref s2, .int s1, .int s0] h) 0 26 [some (.ref l0), some (.int l1), some (.int l2), some (.int l3)] []) rfl ?_
  refine mk_cV ?_
  intro h6
  refine mX_to 1 (k' := 27) (ls' := [some (.ref l0), some (.int l1), some (.int l2), some (.int l3)]) (st' := [.int l3]) (h' := h6) rfl ?_
  exact mX_retc rfl
theorem D_X11_canWalk (d : Nat) (h : MH) (a0 : Nat) (a1 : Int32) (a2 : Int32) : mE mtab (d + 1) 174 [.ref a0, .int a1, .int a2] h = ck (kd h a0 = 12) (cI (mE mtab d 152 [.ref a0, .int a1, .int a2] h) (fun x2 h1 => (if x2 = 0 then some (.int 0, h1) else ck (kd h1 a0 = 12) (cV (mE mtab d 153 [.ref a0, .int a1, .int a2] h1) (fun h3 => ck (kd h3 a0 = 12) (cI (mE mtab d 173 [.ref a0] h3) (fun x5 h4 => (if x5 = 0 then mX (mE mtab d) KX11_canWalk 17 [some (.ref a0), some (.int a1), some (.int a2), none] [.int 1] h4 else mX (mE mtab d) KX11_canWalk 17 [some (.ref a0), some (.int a1), some (.int a2), none] [.int 0] h4)))))))) := by
  refine mE_eq (q := (yX11_canWalk, cX11_canWalk, 4, (some .boolean), KX11_canWalk)) (C := KX11_canWalk) (ls := [some (.ref a0), some (.int a1), some (.int a2), none]) rfl rfl rfl rfl ?_
  refine mX_to 3 (k' := 3) (ls' := [some (.ref a0), some (.int a1), some (.int a2), none]) (st' := [.int a2, .int a1, .ref a0]) (h' := h) rfl ?_
  refine mX_ckc (m := mcl (mE mtab d 152 [.ref a0, .int a1, .int a2] h) 1 4 [some (.ref a0), some (.int a1), some (.int a2), none] []) rfl ?_
  refine mk_cI ?_
  intro x2 h1
  refine mX_br (t := 5) (f := 7) (ls' := [some (.ref a0), some (.int a1), some (.int a2), none]) (st' := []) (h' := h1) rfl ?_ ?_
  · refine mX_to 1 (k' := 6) (ls' := [some (.ref a0), some (.int a1), some (.int a2), none]) (st' := [.int 0]) (h' := h1) rfl ?_
    exact mX_retb (by decide) rfl
  · refine mX_to 3 (k' := 10) (ls' := [some (.ref a0), some (.int a1), some (.int a2), none]) (st' := [.int a2, .int a1, .ref a0]) (h' := h1) rfl ?_
    refine mX_ckc (m := mcl (mE mtab d 153 [.ref a0, .int a1, .int a2] h1) 0 11 [some (.ref a0), some (.int a1), some (.int a2), none] []) rfl ?_
    refine mk_cV ?_
    intro h3
    refine mX_to 1 (k' := 12) (ls' := [some (.ref a0), some (.int a1), some (.int a2), none]) (st' := [.ref a0]) (h' := h3) rfl ?_
    refine mX_ckc (m := mcl (mE mtab d 173 [.ref a0] h3) 1 13 [some (.ref a0), some (.int a1), some (.int a2), none] []) rfl ?_
    refine mk_cI ?_
    intro x5 h4
    refine mX_br (t := 14) (f := 16) (ls' := [some (.ref a0), some (.int a1), some (.int a2), none]) (st' := []) (h' := h4) rfl ?_ ?_
    · refine mX_to 2 (k' := 17) (ls' := [some (.ref a0), some (.int a1), some (.int a2), none]) (st' := [.int 1]) (h' := h4) rfl ?_
      rfl
    · refine mX_to 1 (k' := 17) (ls' := [some (.ref a0), some (.int a1), some (.int a2), none]) (st' := [.int 0]) (h' := h4) rfl ?_
      rfl
theorem D_X11_keep_8 (d : Nat) (h : MH) (l0 : Nat) (l1 : Int32) : mX (mE mtab d) KX11_keep 8 [some (.ref l0), some (.int l1), none] [] h = (if l1 < 1363 then ck (kd h l0 = 12) (ck (kd h l0 = 12) (ck ((kd h (gR h l0 0) = 20 ∨ kd h (gR h l0 0) = 24) ∧ ib (105 + l1) (ln h (gR h l0 0))) (ck (kd h (gR h l0 0) = 20 ∧ ib (58 + l1) (ln h (gR h l0 0))) (lt_ (sI h (gR h l0 0) (ix (58 + l1)) (gI h (gR h l0 0) (ix (105 + l1)))) fun h1 => mX (mE mtab d) KX11_keep 8 [some (.ref l0), some (.int (l1 + 1)), none] [] h1)))) else ck (kd h l0 = 12) (ck ((kd h (gR h l0 0) = 20 ∨ kd h (gR h l0 0) = 24) ∧ ib (4 : Int32) (ln h (gR h l0 0))) (ck (kd h (gR h l0 0) = 20 ∧ ib (4 : Int32) (ln h (gR h l0 0))) (lt_ (sI h (gR h l0 0) (ix (4 : Int32)) ((gI h (gR h l0 0) (ix (4 : Int32))) - 1)) fun h3 => mX (mE mtab d) KX11_keep 33 [some (.ref l0), some (.int l1), none] [] h3)))) := by
  refine mX_to 2 (k' := 10) (ls' := [some (.ref l0), some (.int l1), none]) (st' := [.int 1363, .int l1]) (h' := h) rfl ?_
  refine mX_br (t := 11) (f := 25) (ls' := [some (.ref l0), some (.int l1), none]) (st' := []) (h' := h) rfl ?_ ?_
  · refine mX_to 1 (k' := 12) (ls' := [some (.ref l0), some (.int l1), none]) (st' := [.ref l0]) (h' := h) rfl ?_
    refine mX_ck (k' := 13) (ls' := [some (.ref l0), some (.int l1), none]) (st' := [.ref (gR h l0 0)]) (h' := h) rfl ?_
    refine mX_to 4 (k' := 17) (ls' := [some (.ref l0), some (.int l1), none]) (st' := [.ref l0, .int (58 + l1), .ref (gR h l0 0)]) (h' := h) rfl ?_
    refine mX_ck (k' := 18) (ls' := [some (.ref l0), some (.int l1), none]) (st' := [.ref (gR h l0 0), .int (58 + l1), .ref (gR h l0 0)]) (h' := h) rfl ?_
    refine mX_to 3 (k' := 21) (ls' := [some (.ref l0), some (.int l1), none]) (st' := [.int (105 + l1), .ref (gR h l0 0), .int (58 + l1), .ref (gR h l0 0)]) (h' := h) rfl ?_
    refine mX_ck (k' := 22) (ls' := [some (.ref l0), some (.int l1), none]) (st' := [.int (gI h (gR h l0 0) (ix (105 + l1))), .int (58 + l1), .ref (gR h l0 0)]) (h' := h) rfl ?_
    refine mX_ck (k' := 23) (ls' := [some (.ref l0), some (.int l1), none]) (st' := []) (h' := (sI h (gR h l0 0) (ix (58 + l1)) (gI h (gR h l0 0) (ix (105 + l1))))) rfl ?_
    refine lt_gen (X := fun h1 : MH => mX (mE mtab d) KX11_keep 23 [some (.ref l0), some (.int l1), none] [] h1) fun h1 => ?_
    refine mX_to 2 (k' := 8) (ls' := [some (.ref l0), some (.int (l1 + 1)), none]) (st' := []) (h' := h1) rfl ?_
    rfl
  · refine mX_to 1 (k' := 26) (ls' := [some (.ref l0), some (.int l1), none]) (st' := [.ref l0]) (h' := h) rfl ?_
    refine mX_ck (k' := 27) (ls' := [some (.ref l0), some (.int l1), none]) (st' := [.ref (gR h l0 0)]) (h' := h) rfl ?_
    refine mX_to 2 (k' := 29) (ls' := [some (.ref l0), some (.int l1), none]) (st' := [.int 4, .ref (gR h l0 0), .int 4, .ref (gR h l0 0)]) (h' := h) rfl ?_
    refine mX_ck (k' := 30) (ls' := [some (.ref l0), some (.int l1), none]) (st' := [.int (gI h (gR h l0 0) (ix (4 : Int32))), .int 4, .ref (gR h l0 0)]) (h' := h) rfl ?_
    refine mX_to 2 (k' := 32) (ls' := [some (.ref l0), some (.int l1), none]) (st' := [.int ((gI h (gR h l0 0) (ix (4 : Int32))) - 1), .int 4, .ref (gR h l0 0)]) (h' := h) rfl ?_
    refine mX_ck (k' := 33) (ls' := [some (.ref l0), some (.int l1), none]) (st' := []) (h' := (sI h (gR h l0 0) (ix (4 : Int32)) ((gI h (gR h l0 0) (ix (4 : Int32))) - 1))) rfl ?_
    refine lt_gen (X := fun h3 : MH => mX (mE mtab d) KX11_keep 33 [some (.ref l0), some (.int l1), none] [] h3) fun h3 => ?_
    rfl
theorem D_X11_keep_33 (d : Nat) (h : MH) (l0 : Nat) (o1 : Option Value) : mX (mE mtab d) KX11_keep 33 [some (.ref l0), o1, none] [] h = ck (kd h l0 = 12) (ck ((kd h (gR h l0 0) = 20 ∨ kd h (gR h l0 0) = 24) ∧ ib (4 : Int32) (ln h (gR h l0 0))) (lt_ (58 + (47 * (gI h (gR h l0 0) (ix (4 : Int32))))) fun v4 => ck (kd h l0 = 12) (ck (kd h l0 = 12) (ck ((kd h (gR h l0 0) = 20 ∨ kd h (gR h l0 0) = 24) ∧ ib (0 : Int32) (ln h (gR h l0 0))) (ck (kd h (gR h l0 0) = 20 ∧ ib v4 (ln h (gR h l0 0))) (lt_ (sI h (gR h l0 0) (ix v4) (gI h (gR h l0 0) (ix (0 : Int32)))) fun h5 => mX (mE mtab d) KX11_keep 52 [some (.ref l0), some (.int v4), some (.int 0)] [] h5)))))) := by
  refine mX_to 3 (k' := 36) (ls' := [some (.ref l0), o1, none]) (st' := [.ref l0, .int 47, .int 58]) (h' := h) rfl ?_
  refine mX_ck (k' := 37) (ls' := [some (.ref l0), o1, none]) (st' := [.ref (gR h l0 0), .int 47, .int 58]) (h' := h) rfl ?_
  refine mX_to 1 (k' := 38) (ls' := [some (.ref l0), o1, none]) (st' := [.int 4, .ref (gR h l0 0), .int 47, .int 58]) (h' := h) rfl ?_
  refine mX_ck (k' := 39) (ls' := [some (.ref l0), o1, none]) (st' := [.int (gI h (gR h l0 0) (ix (4 : Int32))), .int 47, .int 58]) (h' := h) rfl ?_
  refine mX_to 2 (k' := 41) (ls' := [some (.ref l0), o1, none]) (st' := [.int (58 + (47 * (gI h (gR h l0 0) (ix (4 : Int32)))))]) (h' := h) rfl ?_
  refine lt_gen (X := fun v4 : Int32 => mX (mE mtab d) KX11_keep 41 [some (.ref l0), o1, none] [.int v4] h) fun v4 => ?_
  refine mX_to 2 (k' := 43) (ls' := [some (.ref l0), some (.int v4), none]) (st' := [.ref l0]) (h' := h) rfl ?_
  refine mX_ck (k' := 44) (ls' := [some (.ref l0), some (.int v4), none]) (st' := [.ref (gR h l0 0)]) (h' := h) rfl ?_
  refine mX_to 2 (k' := 46) (ls' := [some (.ref l0), some (.int v4), none]) (st' := [.ref l0, .int v4, .ref (gR h l0 0)]) (h' := h) rfl ?_
  refine mX_ck (k' := 47) (ls' := [some (.ref l0), some (.int v4), none]) (st' := [.ref (gR h l0 0), .int v4, .ref (gR h l0 0)]) (h' := h) rfl ?_
  refine mX_to 1 (k' := 48) (ls' := [some (.ref l0), some (.int v4), none]) (st' := [.int 0, .ref (gR h l0 0), .int v4, .ref (gR h l0 0)]) (h' := h) rfl ?_
  refine mX_ck (k' := 49) (ls' := [some (.ref l0), some (.int v4), none]) (st' := [.int (gI h (gR h l0 0) (ix (0 : Int32))), .int v4, .ref (gR h l0 0)]) (h' := h) rfl ?_
  refine mX_ck (k' := 50) (ls' := [some (.ref l0), some (.int v4), none]) (st' := []) (h' := (sI h (gR h l0 0) (ix v4) (gI h (gR h l0 0) (ix (0 : Int32))))) rfl ?_
  refine lt_gen (X := fun h5 : MH => mX (mE mtab d) KX11_keep 50 [some (.ref l0), some (.int v4), none] [] h5) fun h5 => ?_
  refine mX_to 2 (k' := 52) (ls' := [some (.ref l0), some (.int v4), some (.int 0)]) (st' := []) (h' := h5) rfl ?_
  rfl
theorem D_X11_keep_52 (d : Nat) (h : MH) (l0 : Nat) (l1 : Int32) (l2 : Int32) : mX (mE mtab d) KX11_keep 52 [some (.ref l0), some (.int l1), some (.int l2)] [] h = (if l2 < 16 then ck (kd h l0 = 12) (ck (kd h l0 = 12) (ck ((kd h (gR h l0 0) = 20 ∨ kd h (gR h l0 0) = 24) ∧ ib (6 + l2) (ln h (gR h l0 0))) (ck (kd h (gR h l0 0) = 20 ∧ ib ((l1 + 1) + l2) (ln h (gR h l0 0))) (lt_ (sI h (gR h l0 0) (ix ((l1 + 1) + l2)) (gI h (gR h l0 0) (ix (6 + l2)))) fun h6 => mX (mE mtab d) KX11_keep 52 [some (.ref l0), some (.int l1), some (.int (l2 + 1))] [] h6)))) else mX (mE mtab d) KX11_keep 73 [some (.ref l0), some (.int l1), some (.int 0)] [] h) := by
  refine mX_to 2 (k' := 54) (ls' := [some (.ref l0), some (.int l1), some (.int l2)]) (st' := [.int 16, .int l2]) (h' := h) rfl ?_
  refine mX_br (t := 55) (f := 71) (ls' := [some (.ref l0), some (.int l1), some (.int l2)]) (st' := []) (h' := h) rfl ?_ ?_
  · refine mX_to 1 (k' := 56) (ls' := [some (.ref l0), some (.int l1), some (.int l2)]) (st' := [.ref l0]) (h' := h) rfl ?_
    refine mX_ck (k' := 57) (ls' := [some (.ref l0), some (.int l1), some (.int l2)]) (st' := [.ref (gR h l0 0)]) (h' := h) rfl ?_
    refine mX_to 6 (k' := 63) (ls' := [some (.ref l0), some (.int l1), some (.int l2)]) (st' := [.ref l0, .int ((l1 + 1) + l2), .ref (gR h l0 0)]) (h' := h) rfl ?_
    refine mX_ck (k' := 64) (ls' := [some (.ref l0), some (.int l1), some (.int l2)]) (st' := [.ref (gR h l0 0), .int ((l1 + 1) + l2), .ref (gR h l0 0)]) (h' := h) rfl ?_
    refine mX_to 3 (k' := 67) (ls' := [some (.ref l0), some (.int l1), some (.int l2)]) (st' := [.int (6 + l2), .ref (gR h l0 0), .int ((l1 + 1) + l2), .ref (gR h l0 0)]) (h' := h) rfl ?_
    refine mX_ck (k' := 68) (ls' := [some (.ref l0), some (.int l1), some (.int l2)]) (st' := [.int (gI h (gR h l0 0) (ix (6 + l2))), .int ((l1 + 1) + l2), .ref (gR h l0 0)]) (h' := h) rfl ?_
    refine mX_ck (k' := 69) (ls' := [some (.ref l0), some (.int l1), some (.int l2)]) (st' := []) (h' := (sI h (gR h l0 0) (ix ((l1 + 1) + l2)) (gI h (gR h l0 0) (ix (6 + l2))))) rfl ?_
    refine lt_gen (X := fun h6 : MH => mX (mE mtab d) KX11_keep 69 [some (.ref l0), some (.int l1), some (.int l2)] [] h6) fun h6 => ?_
    refine mX_to 2 (k' := 52) (ls' := [some (.ref l0), some (.int l1), some (.int (l2 + 1))]) (st' := []) (h' := h6) rfl ?_
    rfl
  · refine mX_to 2 (k' := 73) (ls' := [some (.ref l0), some (.int l1), some (.int 0)]) (st' := []) (h' := h) rfl ?_
    rfl
theorem D_X11_keep_73 (d : Nat) (h : MH) (l0 : Nat) (l1 : Int32) (l2 : Int32) : mX (mE mtab d) KX11_keep 73 [some (.ref l0), some (.int l1), some (.int l2)] [] h = (if l2 < 30 then ck (kd h l0 = 12) (ck (kd h l0 = 12) (ck ((kd h (gR h l0 0) = 20 ∨ kd h (gR h l0 0) = 24) ∧ ib (1468 + l2) (ln h (gR h l0 0))) (ck (kd h (gR h l0 0) = 20 ∧ ib (((l1 + 1) + 16) + l2) (ln h (gR h l0 0))) (lt_ (sI h (gR h l0 0) (ix (((l1 + 1) + 16) + l2)) (gI h (gR h l0 0) (ix (1468 + l2)))) fun h8 => mX (mE mtab d) KX11_keep 73 [some (.ref l0), some (.int l1), some (.int (l2 + 1))] [] h8)))) else ck (kd h l0 = 12) (ck ((kd h (gR h l0 0) = 20 ∨ kd h (gR h l0 0) = 24) ∧ ib (4 : Int32) (ln h (gR h l0 0))) (ck (kd h (gR h l0 0) = 20 ∧ ib (4 : Int32) (ln h (gR h l0 0))) (lt_ (sI h (gR h l0 0) (ix (4 : Int32)) ((gI h (gR h l0 0) (ix (4 : Int32))) + 1)) fun h10 => some (.int 0, h10))))) := by
  refine mX_to 2 (k' := 75) (ls' := [some (.ref l0), some (.int l1), some (.int l2)]) (st' := [.int 30, .int l2]) (h' := h) rfl ?_
  refine mX_br (t := 76) (f := 94) (ls' := [some (.ref l0), some (.int l1), some (.int l2)]) (st' := []) (h' := h) rfl ?_ ?_
  · refine mX_to 1 (k' := 77) (ls' := [some (.ref l0), some (.int l1), some (.int l2)]) (st' := [.ref l0]) (h' := h) rfl ?_
    refine mX_ck (k' := 78) (ls' := [some (.ref l0), some (.int l1), some (.int l2)]) (st' := [.ref (gR h l0 0)]) (h' := h) rfl ?_
    refine mX_to 8 (k' := 86) (ls' := [some (.ref l0), some (.int l1), some (.int l2)]) (st' := [.ref l0, .int (((l1 + 1) + 16) + l2), .ref (gR h l0 0)]) (h' := h) rfl ?_
    refine mX_ck (k' := 87) (ls' := [some (.ref l0), some (.int l1), some (.int l2)]) (st' := [.ref (gR h l0 0), .int (((l1 + 1) + 16) + l2), .ref (gR h l0 0)]) (h' := h) rfl ?_
    refine mX_to 3 (k' := 90) (ls' := [some (.ref l0), some (.int l1), some (.int l2)]) (st' := [.int (1468 + l2), .ref (gR h l0 0), .int (((l1 + 1) + 16) + l2), .ref (gR h l0 0)]) (h' := h) rfl ?_
    refine mX_ck (k' := 91) (ls' := [some (.ref l0), some (.int l1), some (.int l2)]) (st' := [.int (gI h (gR h l0 0) (ix (1468 + l2))), .int (((l1 + 1) + 16) + l2), .ref (gR h l0 0)]) (h' := h) rfl ?_
    refine mX_ck (k' := 92) (ls' := [some (.ref l0), some (.int l1), some (.int l2)]) (st' := []) (h' := (sI h (gR h l0 0) (ix (((l1 + 1) + 16) + l2)) (gI h (gR h l0 0) (ix (1468 + l2))))) rfl ?_
    refine lt_gen (X := fun h8 : MH => mX (mE mtab d) KX11_keep 92 [some (.ref l0), some (.int l1), some (.int l2)] [] h8) fun h8 => ?_
    refine mX_to 2 (k' := 73) (ls' := [some (.ref l0), some (.int l1), some (.int (l2 + 1))]) (st' := []) (h' := h8) rfl ?_
    rfl
  · refine mX_to 1 (k' := 95) (ls' := [some (.ref l0), some (.int l1), some (.int l2)]) (st' := [.ref l0]) (h' := h) rfl ?_
    refine mX_ck (k' := 96) (ls' := [some (.ref l0), some (.int l1), some (.int l2)]) (st' := [.ref (gR h l0 0)]) (h' := h) rfl ?_
    refine mX_to 2 (k' := 98) (ls' := [some (.ref l0), some (.int l1), some (.int l2)]) (st' := [.int 4, .ref (gR h l0 0), .int 4, .ref (gR h l0 0)]) (h' := h) rfl ?_
    refine mX_ck (k' := 99) (ls' := [some (.ref l0), some (.int l1), some (.int l2)]) (st' := [.int (gI h (gR h l0 0) (ix (4 : Int32))), .int 4, .ref (gR h l0 0)]) (h' := h) rfl ?_
    refine mX_to 2 (k' := 101) (ls' := [some (.ref l0), some (.int l1), some (.int l2)]) (st' := [.int ((gI h (gR h l0 0) (ix (4 : Int32))) + 1), .int 4, .ref (gR h l0 0)]) (h' := h) rfl ?_
    refine mX_ck (k' := 102) (ls' := [some (.ref l0), some (.int l1), some (.int l2)]) (st' := []) (h' := (sI h (gR h l0 0) (ix (4 : Int32)) ((gI h (gR h l0 0) (ix (4 : Int32))) + 1))) rfl ?_
    refine lt_gen (X := fun h10 : MH => mX (mE mtab d) KX11_keep 102 [some (.ref l0), some (.int l1), some (.int l2)] [] h10) fun h10 => ?_
    exact mX_ret rfl
theorem D_X11_keep (d : Nat) (h : MH) (a0 : Nat) : mE mtab (d + 1) 175 [.ref a0] h = ck (kd h a0 = 12) (ck ((kd h (gR h a0 0) = 20 ∨ kd h (gR h a0 0) = 24) ∧ ib (4 : Int32) (ln h (gR h a0 0))) ((if (gI h (gR h a0 0) (ix (4 : Int32))) = 30 then mX (mE mtab d) KX11_keep 8 [some (.ref a0), some (.int 0), none] [] h else mX (mE mtab d) KX11_keep 33 [some (.ref a0), none, none] [] h))) := by
  refine mE_eq (q := (yX11_keep, cX11_keep, 3, none, KX11_keep)) (C := KX11_keep) (ls := [some (.ref a0), none, none]) rfl rfl rfl rfl ?_
  refine mX_to 1 (k' := 1) (ls' := [some (.ref a0), none, none]) (st' := [.ref a0]) (h' := h) rfl ?_
  refine mX_ck (k' := 2) (ls' := [some (.ref a0), none, none]) (st' := [.ref (gR h a0 0)]) (h' := h) rfl ?_
  refine mX_to 1 (k' := 3) (ls' := [some (.ref a0), none, none]) (st' := [.int 4, .ref (gR h a0 0)]) (h' := h) rfl ?_
  refine mX_ck (k' := 4) (ls' := [some (.ref a0), none, none]) (st' := [.int (gI h (gR h a0 0) (ix (4 : Int32)))]) (h' := h) rfl ?_
  refine mX_to 1 (k' := 5) (ls' := [some (.ref a0), none, none]) (st' := [.int 30, .int (gI h (gR h a0 0) (ix (4 : Int32)))]) (h' := h) rfl ?_
  refine mX_br (t := 6) (f := 33) (ls' := [some (.ref a0), none, none]) (st' := []) (h' := h) rfl ?_ ?_
  · refine mX_to 2 (k' := 8) (ls' := [some (.ref a0), some (.int 0), none]) (st' := []) (h' := h) rfl ?_
    rfl
  · rfl
theorem D_X11_walk (d : Nat) (h : MH) (a0 : Nat) (a1 : Int32) (a2 : Int32) : mE mtab (d + 1) 176 [.ref a0, .int a1, .int a2] h = ck (kd h a0 = 12) (cI (mE mtab d 174 [.ref a0, .int a1, .int a2] h) (fun x2 h1 => (if x2 = 0 then some (.int 0, h1) else ck (kd h1 a0 = 12) (cV (mE mtab d 175 [.ref a0] h1) (fun h3 => ck (kd h3 a0 = 12) (cV (mE mtab d 153 [.ref a0, .int a1, .int a2] h3) (fun h4 => some (.int 1, h4)))))))) := by
  refine mE_eq (q := (yX11_walk, cX11_walk, 3, (some .boolean), KX11_walk)) (C := KX11_walk) (ls := [some (.ref a0), some (.int a1), some (.int a2)]) rfl rfl rfl rfl ?_
  refine mX_to 3 (k' := 3) (ls' := [some (.ref a0), some (.int a1), some (.int a2)]) (st' := [.int a2, .int a1, .ref a0]) (h' := h) rfl ?_
  refine mX_ckc (m := mcl (mE mtab d 174 [.ref a0, .int a1, .int a2] h) 1 4 [some (.ref a0), some (.int a1), some (.int a2)] []) rfl ?_
  refine mk_cI ?_
  intro x2 h1
  refine mX_br (t := 5) (f := 7) (ls' := [some (.ref a0), some (.int a1), some (.int a2)]) (st' := []) (h' := h1) rfl ?_ ?_
  · refine mX_to 1 (k' := 6) (ls' := [some (.ref a0), some (.int a1), some (.int a2)]) (st' := [.int 0]) (h' := h1) rfl ?_
    exact mX_retb (by decide) rfl
  · refine mX_to 1 (k' := 8) (ls' := [some (.ref a0), some (.int a1), some (.int a2)]) (st' := [.ref a0]) (h' := h1) rfl ?_
    refine mX_ckc (m := mcl (mE mtab d 175 [.ref a0] h1) 0 9 [some (.ref a0), some (.int a1), some (.int a2)] []) rfl ?_
    refine mk_cV ?_
    intro h3
    refine mX_to 3 (k' := 12) (ls' := [some (.ref a0), some (.int a1), some (.int a2)]) (st' := [.int a2, .int a1, .ref a0]) (h' := h3) rfl ?_
    refine mX_ckc (m := mcl (mE mtab d 153 [.ref a0, .int a1, .int a2] h3) 0 13 [some (.ref a0), some (.int a1), some (.int a2)] []) rfl ?_
    refine mk_cV ?_
    intro h4
    refine mX_to 1 (k' := 14) (ls' := [some (.ref a0), some (.int a1), some (.int a2)]) (st' := [.int 1]) (h' := h4) rfl ?_
    exact mX_retb (by decide) rfl
theorem D_X9_goPaired_38 (d : Nat) (h : MH) (l0 : Nat) (l1 : Int32) (l2 : Int32) (l3 : Int32) (l4 : Int32) (l5 : Int32) (l6 : Int32) : mX (mE mtab d) KX9_goPaired 38 [some (.ref l0), some (.int l1), some (.int l2), some (.int l3), some (.int l4), some (.int l5), some (.int l6)] [] h = ck (kd h l0 = 10) (ck (kd h (gR h l0 2) = 20 ∧ ib l1 (ln h (gR h l0 2))) (lt_ (sI h (gR h l0 2) (ix l1) l5) fun h13 => ck (kd h13 l0 = 10) (ck (kd h13 (gR h13 l0 2) = 20 ∧ ib l3 (ln h13 (gR h13 l0 2))) (lt_ (sI h13 (gR h13 l0 2) (ix l3) l6) fun h14 => some (.int 0, h14))))) := by
  refine mX_to 1 (k' := 39) (ls' := [some (.ref l0), some (.int l1), some (.int l2), some (.int l3), some (.int l4), some (.int l5), some (.int l6)]) (st' := [.ref l0]) (h' := h) rfl ?_
  refine mX_ck (k' := 40) (ls' := [some (.ref l0), some (.int l1), some (.int l2), some (.int l3), some (.int l4), some (.int l5), some (.int l6)]) (st' := [.ref (gR h l0 2)]) (h' := h) rfl ?_
  refine mX_to 2 (k' := 42) (ls' := [some (.ref l0), some (.int l1), some (.int l2), some (.int l3), some (.int l4), some (.int l5), some (.int l6)]) (st' := [.int l5, .int l1, .ref (gR h l0 2)]) (h' := h) rfl ?_
  refine mX_ck (k' := 43) (ls' := [some (.ref l0), some (.int l1), some (.int l2), some (.int l3), some (.int l4), some (.int l5), some (.int l6)]) (st' := []) (h' := (sI h (gR h l0 2) (ix l1) l5)) rfl ?_
  refine lt_gen (X := fun h13 : MH => mX (mE mtab d) KX9_goPaired 43 [some (.ref l0), some (.int l1), some (.int l2), some (.int l3), some (.int l4), some (.int l5), some (.int l6)] [] h13) fun h13 => ?_
  refine mX_to 1 (k' := 44) (ls' := [some (.ref l0), some (.int l1), some (.int l2), some (.int l3), some (.int l4), some (.int l5), some (.int l6)]) (st' := [.ref l0]) (h' := h13) rfl ?_
  refine mX_ck (k' := 45) (ls' := [some (.ref l0), some (.int l1), some (.int l2), some (.int l3), some (.int l4), some (.int l5), some (.int l6)]) (st' := [.ref (gR h13 l0 2)]) (h' := h13) rfl ?_
  refine mX_to 2 (k' := 47) (ls' := [some (.ref l0), some (.int l1), some (.int l2), some (.int l3), some (.int l4), some (.int l5), some (.int l6)]) (st' := [.int l6, .int l3, .ref (gR h13 l0 2)]) (h' := h13) rfl ?_
  refine mX_ck (k' := 48) (ls' := [some (.ref l0), some (.int l1), some (.int l2), some (.int l3), some (.int l4), some (.int l5), some (.int l6)]) (st' := []) (h' := (sI h13 (gR h13 l0 2) (ix l3) l6)) rfl ?_
  refine lt_gen (X := fun h14 : MH => mX (mE mtab d) KX9_goPaired 48 [some (.ref l0), some (.int l1), some (.int l2), some (.int l3), some (.int l4), some (.int l5), some (.int l6)] [] h14) fun h14 => ?_
  refine mX_to 1 (k' := 49) (ls' := [some (.ref l0), some (.int l1), some (.int l2), some (.int l3), some (.int l4), some (.int l5), some (.int l6)]) (st' := [.int 0]) (h' := h14) rfl ?_
  exact mX_retb (by decide) rfl
theorem D_X9_goPaired (d : Nat) (h : MH) (a0 : Nat) (a1 : Int32) (a2 : Int32) (a3 : Int32) (a4 : Int32) : mE mtab (d + 1) 177 [.ref a0, .int a1, .int a2, .int a3, .int a4] h = (if a1 = a3 then some (.int 0, h) else ck (kd h a0 = 10) (cI (mE mtab d 17 [.ref a0, .int a1] h) (fun x2 h1 => (if x2 = 0 then some (.int 0, h1) else ck (kd h1 a0 = 10) (cI (mE mtab d 17 [.ref a0, .int a3] h1) (fun x4 h3 => (if x4 = 0 then some (.int 0, h3) else ck (kd h3 a0 = 10) (ck ((kd h3 (gR h3 a0 2) = 20 ∨ kd h3 (gR h3 a0 2) = 24) ∧ ib a1 (ln h3 (gR h3 a0 2))) (lt_ (gI h3 (gR h3 a0 2) (ix a1)) fun v5 => ck (kd h3 a0 = 10) (ck ((kd h3 (gR h3 a0 2) = 20 ∨ kd h3 (gR h3 a0 2) = 24) ∧ ib a3 (ln h3 (gR h3 a0 2))) (lt_ (gI h3 (gR h3 a0 2) (ix a3)) fun v6 => ck (kd h3 a0 = 10) (cI (mE mtab d 138 [.ref a0, .int a1, .int a2] h3) (fun x8 h7 => (if x8 = 0 then mX (mE mtab d) KX9_goPaired 38 [some (.ref a0), some (.int a1), some (.int a2), some (.int a3), some (.int a4), some (.int v5), some (.int v6)] [] h7 else ck (kd h7 a0 = 10) (cI (mE mtab d 138 [.ref a0, .int a3, .int a4] h7) (fun x10 h9 => (if x10 = 0 then mX (mE mtab d) KX9_goPaired 38 [some (.ref a0), some (.int a1), some (.int a2), some (.int a3), some (.int a4), some (.int v5), some (.int v6)] [] h9 else ck (kd h9 a0 = 10) (cI (mE mtab d 146 [.ref a0] h9) (fun x12 h11 => (if x12 = 0 then mX (mE mtab d) KX9_goPaired 38 [some (.ref a0), some (.int a1), some (.int a2), some (.int a3), some (.int a4), some (.int v5), some (.int v6)] [] h11 else some (.int 1, h11))))))))))))))))))))) := by
  refine mE_eq (q := (yX9_goPaired, cX9_goPaired, 7, (some .boolean), KX9_goPaired)) (C := KX9_goPaired) (ls := [some (.ref a0), some (.int a1), some (.int a2), some (.int a3), some (.int a4), none, none]) rfl rfl rfl rfl ?_
  refine mX_to 2 (k' := 2) (ls' := [some (.ref a0), some (.int a1), some (.int a2), some (.int a3), some (.int a4), none, none]) (st' := [.int a3, .int a1]) (h' := h) rfl ?_
  refine mX_br (t := 11) (f := 3) (ls' := [some (.ref a0), some (.int a1), some (.int a2), some (.int a3), some (.int a4), none, none]) (st' := []) (h' := h) rfl ?_ ?_
  · refine mX_to 1 (k' := 12) (ls' := [some (.ref a0), some (.int a1), some (.int a2), some (.int a3), some (.int a4), none, none]) (st' := [.int 0]) (h' := h) rfl ?_
    exact mX_retb (by decide) rfl
  · refine mX_to 2 (k' := 5) (ls' := [some (.ref a0), some (.int a1), some (.int a2), some (.int a3), some (.int a4), none, none]) (st' := [.int a1, .ref a0]) (h' := h) rfl ?_
    refine mX_ckc (m := mcl (mE mtab d 17 [.ref a0, .int a1] h) 1 6 [some (.ref a0), some (.int a1), some (.int a2), some (.int a3), some (.int a4), none, none] []) rfl ?_
    refine mk_cI ?_
    intro x2 h1
    refine mX_br (t := 11) (f := 7) (ls' := [some (.ref a0), some (.int a1), some (.int a2), some (.int a3), some (.int a4), none, none]) (st' := []) (h' := h1) rfl ?_ ?_
    · refine mX_to 1 (k' := 12) (ls' := [some (.ref a0), some (.int a1), some (.int a2), some (.int a3), some (.int a4), none, none]) (st' := [.int 0]) (h' := h1) rfl ?_
      exact mX_retb (by decide) rfl
    · refine mX_to 2 (k' := 9) (ls' := [some (.ref a0), some (.int a1), some (.int a2), some (.int a3), some (.int a4), none, none]) (st' := [.int a3, .ref a0]) (h' := h1) rfl ?_
      refine mX_ckc (m := mcl (mE mtab d 17 [.ref a0, .int a3] h1) 1 10 [some (.ref a0), some (.int a1), some (.int a2), some (.int a3), some (.int a4), none, none] []) rfl ?_
      refine mk_cI ?_
      intro x4 h3
      refine mX_br (t := 11) (f := 13) (ls' := [some (.ref a0), some (.int a1), some (.int a2), some (.int a3), some (.int a4), none, none]) (st' := []) (h' := h3) rfl ?_ ?_
      · refine mX_to 1 (k' := 12) (ls' := [some (.ref a0), some (.int a1), some (.int a2), some (.int a3), some (.int a4), none, none]) (st' := [.int 0]) (h' := h3) rfl ?_
        exact mX_retb (by decide) rfl
      · refine mX_to 1 (k' := 14) (ls' := [some (.ref a0), some (.int a1), some (.int a2), some (.int a3), some (.int a4), none, none]) (st' := [.ref a0]) (h' := h3) rfl ?_
        refine mX_ck (k' := 15) (ls' := [some (.ref a0), some (.int a1), some (.int a2), some (.int a3), some (.int a4), none, none]) (st' := [.ref (gR h3 a0 2)]) (h' := h3) rfl ?_
        refine mX_to 1 (k' := 16) (ls' := [some (.ref a0), some (.int a1), some (.int a2), some (.int a3), some (.int a4), none, none]) (st' := [.int a1, .ref (gR h3 a0 2)]) (h' := h3) rfl ?_
        refine mX_ck (k' := 17) (ls' := [some (.ref a0), some (.int a1), some (.int a2), some (.int a3), some (.int a4), none, none]) (st' := [.int (gI h3 (gR h3 a0 2) (ix a1))]) (h' := h3) rfl ?_
        refine lt_gen (X := fun v5 : Int32 => mX (mE mtab d) KX9_goPaired 17 [some (.ref a0), some (.int a1), some (.int a2), some (.int a3), some (.int a4), none, none] [.int v5] h3) fun v5 => ?_
        refine mX_to 2 (k' := 19) (ls' := [some (.ref a0), some (.int a1), some (.int a2), some (.int a3), some (.int a4), some (.int v5), none]) (st' := [.ref a0]) (h' := h3) rfl ?_
        refine mX_ck (k' := 20) (ls' := [some (.ref a0), some (.int a1), some (.int a2), some (.int a3), some (.int a4), some (.int v5), none]) (st' := [.ref (gR h3 a0 2)]) (h' := h3) rfl ?_
        refine mX_to 1 (k' := 21) (ls' := [some (.ref a0), some (.int a1), some (.int a2), some (.int a3), some (.int a4), some (.int v5), none]) (st' := [.int a3, .ref (gR h3 a0 2)]) (h' := h3) rfl ?_
        refine mX_ck (k' := 22) (ls' := [some (.ref a0), some (.int a1), some (.int a2), some (.int a3), some (.int a4), some (.int v5), none]) (st' := [.int (gI h3 (gR h3 a0 2) (ix a3))]) (h' := h3) rfl ?_
        refine lt_gen (X := fun v6 : Int32 => mX (mE mtab d) KX9_goPaired 22 [some (.ref a0), some (.int a1), some (.int a2), some (.int a3), some (.int a4), some (.int v5), none] [.int v6] h3) fun v6 => ?_
        refine mX_to 4 (k' := 26) (ls' := [some (.ref a0), some (.int a1), some (.int a2), some (.int a3), some (.int a4), some (.int v5), some (.int v6)]) (st' := [.int a2, .int a1, .ref a0]) (h' := h3) rfl ?_
        refine mX_ckc (m := mcl (mE mtab d 138 [.ref a0, .int a1, .int a2] h3) 1 27 [some (.ref a0), some (.int a1), some (.int a2), some (.int a3), some (.int a4), some (.int v5), some (.int v6)] []) rfl ?_
        refine mk_cI ?_
        intro x8 h7
        refine mX_br (t := 38) (f := 28) (ls' := [some (.ref a0), some (.int a1), some (.int a2), some (.int a3), some (.int a4), some (.int v5), some (.int v6)]) (st' := []) (h' := h7) rfl ?_ ?_
        · rfl
        · refine mX_to 3 (k' := 31) (ls' := [some (.ref a0), some (.int a1), some (.int a2), some (.int a3), some (.int a4), some (.int v5), some (.int v6)]) (st' := [.int a4, .int a3, .ref a0]) (h' := h7) rfl ?_
          refine mX_ckc (m := mcl (mE mtab d 138 [.ref a0, .int a3, .int a4] h7) 1 32 [some (.ref a0), some (.int a1), some (.int a2), some (.int a3), some (.int a4), some (.int v5), some (.int v6)] []) rfl ?_
          refine mk_cI ?_
          intro x10 h9
          refine mX_br (t := 38) (f := 33) (ls' := [some (.ref a0), some (.int a1), some (.int a2), some (.int a3), some (.int a4), some (.int v5), some (.int v6)]) (st' := []) (h' := h9) rfl ?_ ?_
          · rfl
          · refine mX_to 1 (k' := 34) (ls' := [some (.ref a0), some (.int a1), some (.int a2), some (.int a3), some (.int a4), some (.int v5), some (.int v6)]) (st' := [.ref a0]) (h' := h9) rfl ?_
            refine mX_ckc (m := mcl (mE mtab d 146 [.ref a0] h9) 1 35 [some (.ref a0), some (.int a1), some (.int a2), some (.int a3), some (.int a4), some (.int v5), some (.int v6)] []) rfl ?_
            refine mk_cI ?_
            intro x12 h11
            refine mX_br (t := 38) (f := 36) (ls' := [some (.ref a0), some (.int a1), some (.int a2), some (.int a3), some (.int a4), some (.int v5), some (.int v6)]) (st' := []) (h' := h11) rfl ?_ ?_
            · rfl
            · refine mX_to 1 (k' := 37) (ls' := [some (.ref a0), some (.int a1), some (.int a2), some (.int a3), some (.int a4), some (.int v5), some (.int v6)]) (st' := [.int 1]) (h' := h11) rfl ?_
              exact mX_retb (by decide) rfl
theorem D_X0_walksPaired (d : Nat) (h : MH) (a0 : Nat) (a1 : Int32) (a2 : Int32) (a3 : Int32) (a4 : Int32) : mE mtab (d + 1) 178 [.ref a0, .int a1, .int a2, .int a3, .int a4] h = ck (kd h a0 = 1) (ck (kd h a0 = 1) (ck (kd h (gR h a0 1) = 7) (cV (mE mtab d 137 [.ref (gR h a0 1), .ref (gR h a0 0)] h) (fun h1 => ck (kd h1 a0 = 1) (ck (kd h1 a0 = 1) (ck (kd h1 (gR h1 a0 0) = 10) (cI (mE mtab d 177 [.ref (gR h1 a0 0), .int a1, .int a2, .int a3, .int a4] h1) (fun x3 h2 => ck (kd h2 (gR h1 a0 1) = 7) (cI (mE mtab d 148 [.ref (gR h1 a0 1), .int x3] h2) (fun x5 h4 => ck (mrt 1 x5) (some (.int x5, h4)))))))))))) := by
  refine mE_eq (q := (yX0_walksPaired, cX0_walksPaired, 5, (some .boolean), KX0_walksPaired)) (C := KX0_walksPaired) (ls := [some (.ref a0), some (.int a1), some (.int a2), some (.int a3), some (.int a4)]) rfl rfl rfl rfl ?_
  refine mX_to 1 (k' := 1) (ls' := [some (.ref a0), some (.int a1), some (.int a2), some (.int a3), some (.int a4)]) (st' := [.ref a0]) (h' := h) rfl ?_
  refine mX_ck (k' := 2) (ls' := [some (.ref a0), some (.int a1), some (.int a2), some (.int a3), some (.int a4)]) (st' := [.ref (gR h a0 1)]) (h' := h) rfl ?_
  refine mX_to 1 (k' := 3) (ls' := [some (.ref a0), some (.int a1), some (.int a2), some (.int a3), some (.int a4)]) (st' := [.ref a0, .ref (gR h a0 1)]) (h' := h) rfl ?_
  refine mX_ck (k' := 4) (ls' := [some (.ref a0), some (.int a1), some (.int a2), some (.int a3), some (.int a4)]) (st' := [.ref (gR h a0 0), .ref (gR h a0 1)]) (h' := h) rfl ?_
  refine mX_ckc (m := mcl (mE mtab d 137 [.ref (gR h a0 1), .ref (gR h a0 0)] h) 0 5 [some (.ref a0), some (.int a1), some (.int a2), some (.int a3), some (.int a4)] []) rfl ?_
  refine mk_cV ?_
  intro h1
  refine mX_to 1 (k' := 6) (ls' := [some (.ref a0), some (.int a1), some (.int a2), some (.int a3), some (.int a4)]) (st' := [.ref a0]) (h' := h1) rfl ?_
  refine mX_ck (k' := 7) (ls' := [some (.ref a0), some (.int a1), some (.int a2), some (.int a3), some (.int a4)]) (st' := [.ref (gR h1 a0 1)]) (h' := h1) rfl ?_
  refine mX_to 1 (k' := 8) (ls' := [some (.ref a0), some (.int a1), some (.int a2), some (.int a3), some (.int a4)]) (st' := [.ref a0, .ref (gR h1 a0 1)]) (h' := h1) rfl ?_
  refine mX_ck (k' := 9) (ls' := [some (.ref a0), some (.int a1), some (.int a2), some (.int a3), some (.int a4)]) (st' := [.ref (gR h1 a0 0), .ref (gR h1 a0 1)]) (h' := h1) rfl ?_
  refine mX_to 4 (k' := 13) (ls' := [some (.ref a0), some (.int a1), some (.int a2), some (.int a3), some (.int a4)]) (st' := [.int a4, .int a3, .int a2, .int a1, .ref (gR h1 a0 0), .ref (gR h1 a0 1)]) (h' := h1) rfl ?_
  refine mX_ckc (m := mcl (mE mtab d 177 [.ref (gR h1 a0 0), .int a1, .int a2, .int a3, .int a4] h1) 1 14 [some (.ref a0), some (.int a1), some (.int a2), some (.int a3), some (.int a4)] [.ref (gR h1 a0 1)]) rfl ?_
  refine mk_cI ?_
  intro x3 h2
  refine mX_ckc (m := mcl (mE mtab d 148 [.ref (gR h1 a0 1), .int x3] h2) 1 15 [some (.ref a0), some (.int a1), some (.int a2), some (.int a3), some (.int a4)] []) rfl ?_
  refine mk_cI ?_
  intro x5 h4
  exact mX_retc rfl
theorem D_X10_pair (d : Nat) (h : MH) (a0 : Nat) (a1 : Int32) (a2 : Int32) (a3 : Int32) (a4 : Int32) : mE mtab (d + 1) 179 [.ref a0, .int a1, .int a2, .int a3, .int a4] h = ck (kd h a0 = 11) (ck (kd h (gR h a0 0) = 1) (cI (mE mtab d 178 [.ref (gR h a0 0), .int a1, .int a2, .int a3, .int a4] h) (fun x2 h1 => ck (mrt 1 x2) (some (.int x2, h1))))) := by
  refine mE_eq (q := (yX10_pair, cX10_pair, 5, (some .boolean), KX10_pair)) (C := KX10_pair) (ls := [some (.ref a0), some (.int a1), some (.int a2), some (.int a3), some (.int a4)]) rfl rfl rfl rfl ?_
  refine mX_to 1 (k' := 1) (ls' := [some (.ref a0), some (.int a1), some (.int a2), some (.int a3), some (.int a4)]) (st' := [.ref a0]) (h' := h) rfl ?_
  refine mX_ck (k' := 2) (ls' := [some (.ref a0), some (.int a1), some (.int a2), some (.int a3), some (.int a4)]) (st' := [.ref (gR h a0 0)]) (h' := h) rfl ?_
  refine mX_to 4 (k' := 6) (ls' := [some (.ref a0), some (.int a1), some (.int a2), some (.int a3), some (.int a4)]) (st' := [.int a4, .int a3, .int a2, .int a1, .ref (gR h a0 0)]) (h' := h) rfl ?_
  refine mX_ckc (m := mcl (mE mtab d 178 [.ref (gR h a0 0), .int a1, .int a2, .int a3, .int a4] h) 1 7 [some (.ref a0), some (.int a1), some (.int a2), some (.int a3), some (.int a4)] []) rfl ?_
  refine mk_cI ?_
  intro x2 h1
  exact mX_retc rfl
theorem D_X11_canPair_29 (d : Nat) (h : MH) (l0 : Nat) (l1 : Int32) (l2 : Int32) (l3 : Int32) (l4 : Int32) (s0 : Int32) : mX (mE mtab d) KX11_canPair 29 [some (.ref l0), some (.int l1), some (.int l2), some (.int l3), some (.int l4), none] [.int s0] h = (if l2 = 0 then mX (mE mtab d) KX11_canPair 37 [some (.ref l0), some (.int l1), some (.int l2), some (.int l3), some (.int l4), some (.int s0)] [.int 1, .int l1, .ref l0] h else mX (mE mtab d) KX11_canPair 37 [some (.ref l0), some (.int l1), some (.int l2), some (.int l3), some (.int l4), some (.int s0)] [.int 0, .int l1, .ref l0] h) := by
  refine mX_to 4 (k' := 33) (ls' := [some (.ref l0), some (.int l1), some (.int l2), some (.int l3), some (.int l4), some (.int s0)]) (st' := [.int l2, .int l1, .ref l0]) (h' := h) rfl ?_
  refine mX_br (t := 34) (f := 36) (ls' := [some (.ref l0), some (.int l1), some (.int l2), some (.int l3), some (.int l4), some (.int s0)]) (st' := [.int l1, .ref l0]) (h' := h) rfl ?_ ?_
  · refine mX_to 2 (k' := 37) (ls' := [some (.ref l0), some (.int l1), some (.int l2), some (.int l3), some (.int l4), some (.int s0)]) (st' := [.int 1, .int l1, .ref l0]) (h' := h) rfl ?_
    rfl
  · refine mX_to 1 (k' := 37) (ls' := [some (.ref l0), some (.int l1), some (.int l2), some (.int l3), some (.int l4), some (.int s0)]) (st' := [.int 0, .int l1, .ref l0]) (h' := h) rfl ?_
    rfl
theorem D_X11_canPair_37 (d : Nat) (h : MH) (l0 : Nat) (l1 : Int32) (l2 : Int32) (l3 : Int32) (l4 : Int32) (l5 : Int32) (s0 : Int32) (s1 : Int32) (s2 : Nat) : mX (mE mtab d) KX11_canPair 37 [some (.ref l0), some (.int l1), some (.int l2), some (.int l3), some (.int l4), some (.int l5)] [.int s0, .int s1, .ref s2] h = ck (kd h s2 = 12) (cV (mE mtab d 153 [.ref s2, .int s1, .int s0] h) (fun h9 => (if l4 = 0 then mX (mE mtab d) KX11_canPair 45 [some (.ref l0), some (.int l1), some (.int l2), some (.int l3), some (.int l4), some (.int l5)] [.int 1, .int l3, .ref l0] h9 else mX (mE mtab d) KX11_canPair 45 [some (.ref l0), some (.int l1), some (.int l2), some (.int l3), some (.int l4), some (.int l5)] [.int 0, .int l3, .ref l0] h9))) := by
  refine mX_ckc (m := mcl (mE mtab d 153 [.ref s2, .int s1, .int s0] h) 0 38 [some (.ref l0), some (.int l1), some (.int l2), some (.int l3), some (.int l4), some (.int l5)] []) rfl ?_
  refine mk_cV ?_
  intro h9
  refine mX_to 3 (k' := 41) (ls' := [some (.ref l0), some (.int l1), some (.int l2), some (.int l3), some (.int l4), some (.int l5)]) (st' := [.int l4, .int l3, .ref l0]) (h' := h9) rfl ?_
  refine mX_br (t := 42) (f := 44) (ls' := [some (.ref l0), some (.int l1), some (.int l2), some (.int l3), some (.int l4), some (.int l5)]) (st' := [.int l3, .ref l0]) (h' := h9) rfl ?_ ?_
  · refine mX_to 2 (k' := 45) (ls' := [some (.ref l0), some (.int l1), some (.int l2), some (.int l3), some (.int l4), some (.int l5)]) (st' := [.int 1, .int l3, .ref l0]) (h' := h9) rfl ?_
    rfl
  · refine mX_to 1 (k' := 45) (ls' := [some (.ref l0), some (.int l1), some (.int l2), some (.int l3), some (.int l4), some (.int l5)]) (st' := [.int 0, .int l3, .ref l0]) (h' := h9) rfl ?_
    rfl
theorem D_X11_canPair_45 (d : Nat) (h : MH) (l0 : Nat) (l1 : Int32) (l2 : Int32) (l3 : Int32) (l4 : Int32) (l5 : Int32) (s0 : Int32) (s1 : Int32) (s2 : Nat) : mX (mE mtab d) KX11_canPair 45 [some (.ref l0), some (.int l1), some (.int l2), some (.int l3), some (.int l4), some (.int l5)] [.int s0, .int s1, .ref s2] h = ck (kd h s2 = 12) (cV (mE mtab d 153 [.ref s2, .int s1, .int s0] h) (fun h10 => ck (mrt 1 l5) (some (.int l5, h10)))) := by
  refine mX_ckc (m := mcl (mE mtab d 153 [.ref s2, .int s1, .int s0] h) 0 46 [some (.ref l0), some (.int l1), some (.int l2), some (.int l3), some (.int l4), some (.int l5)] []) rfl ?_
  refine mk_cV ?_
  intro h10
  refine mX_to 1 (k' := 47) (ls' := [some (.ref l0), some (.int l1), some (.int l2), some (.int l3), some (.int l4), some (.int l5)]) (st' := [.int l5]) (h' := h10) rfl ?_
  exact mX_retc rfl
theorem D_X11_canPair (d : Nat) (h : MH) (a0 : Nat) (a1 : Int32) (a2 : Int32) (a3 : Int32) (a4 : Int32) : mE mtab (d + 1) 180 [.ref a0, .int a1, .int a2, .int a3, .int a4] h = (if a1 = a3 then some (.int 0, h) else ck (kd h a0 = 12) (cI (mE mtab d 152 [.ref a0, .int a1, .int a2] h) (fun x2 h1 => (if x2 = 0 then some (.int 0, h1) else ck (kd h1 a0 = 12) (cI (mE mtab d 152 [.ref a0, .int a3, .int a4] h1) (fun x4 h3 => (if x4 = 0 then some (.int 0, h3) else ck (kd h3 a0 = 12) (cV (mE mtab d 153 [.ref a0, .int a1, .int a2] h3) (fun h5 => ck (kd h5 a0 = 12) (cV (mE mtab d 153 [.ref a0, .int a3, .int a4] h5) (fun h6 => ck (kd h6 a0 = 12) (cI (mE mtab d 173 [.ref a0] h6) (fun x8 h7 => (if x8 = 0 then mX (mE mtab d) KX11_canPair 29 [some (.ref a0), some (.int a1), some (.int a2), some (.int a3), some (.int a4), none] [.int 1] h7 else mX (mE mtab d) KX11_canPair 29 [some (.ref a0), some (.int a1), some (.int a2), some (.int a3), some (.int a4), none] [.int 0] h7)))))))))))))) := by
  refine mE_eq (q := (yX11_canPair, cX11_canPair, 6, (some .boolean), KX11_canPair)) (C := KX11_canPair) (ls := [some (.ref a0), some (.int a1), some (.int a2), some (.int a3), some (.int a4), none]) rfl rfl rfl rfl ?_
  refine mX_to 2 (k' := 2) (ls' := [some (.ref a0), some (.int a1), some (.int a2), some (.int a3), some (.int a4), none]) (st' := [.int a3, .int a1]) (h' := h) rfl ?_
  refine mX_br (t := 13) (f := 3) (ls' := [some (.ref a0), some (.int a1), some (.int a2), some (.int a3), some (.int a4), none]) (st' := []) (h' := h) rfl ?_ ?_
  · refine mX_to 1 (k' := 14) (ls' := [some (.ref a0), some (.int a1), some (.int a2), some (.int a3), some (.int a4), none]) (st' := [.int 0]) (h' := h) rfl ?_
    exact mX_retb (by decide) rfl
  · refine mX_to 3 (k' := 6) (ls' := [some (.ref a0), some (.int a1), some (.int a2), some (.int a3), some (.int a4), none]) (st' := [.int a2, .int a1, .ref a0]) (h' := h) rfl ?_
    refine mX_ckc (m := mcl (mE mtab d 152 [.ref a0, .int a1, .int a2] h) 1 7 [some (.ref a0), some (.int a1), some (.int a2), some (.int a3), some (.int a4), none] []) rfl ?_
    refine mk_cI ?_
    intro x2 h1
    refine mX_br (t := 13) (f := 8) (ls' := [some (.ref a0), some (.int a1), some (.int a2), some (.int a3), some (.int a4), none]) (st' := []) (h' := h1) rfl ?_ ?_
    · refine mX_to 1 (k' := 14) (ls' := [some (.ref a0), some (.int a1), some (.int a2), some (.int a3), some (.int a4), none]) (st' := [.int 0]) (h' := h1) rfl ?_
      exact mX_retb (by decide) rfl
    · refine mX_to 3 (k' := 11) (ls' := [some (.ref a0), some (.int a1), some (.int a2), some (.int a3), some (.int a4), none]) (st' := [.int a4, .int a3, .ref a0]) (h' := h1) rfl ?_
      refine mX_ckc (m := mcl (mE mtab d 152 [.ref a0, .int a3, .int a4] h1) 1 12 [some (.ref a0), some (.int a1), some (.int a2), some (.int a3), some (.int a4), none] []) rfl ?_
      refine mk_cI ?_
      intro x4 h3
      refine mX_br (t := 13) (f := 15) (ls' := [some (.ref a0), some (.int a1), some (.int a2), some (.int a3), some (.int a4), none]) (st' := []) (h' := h3) rfl ?_ ?_
      · refine mX_to 1 (k' := 14) (ls' := [some (.ref a0), some (.int a1), some (.int a2), some (.int a3), some (.int a4), none]) (st' := [.int 0]) (h' := h3) rfl ?_
        exact mX_retb (by decide) rfl
      · refine mX_to 3 (k' := 18) (ls' := [some (.ref a0), some (.int a1), some (.int a2), some (.int a3), some (.int a4), none]) (st' := [.int a2, .int a1, .ref a0]) (h' := h3) rfl ?_
        refine mX_ckc (m := mcl (mE mtab d 153 [.ref a0, .int a1, .int a2] h3) 0 19 [some (.ref a0), some (.int a1), some (.int a2), some (.int a3), some (.int a4), none] []) rfl ?_
        refine mk_cV ?_
        intro h5
        refine mX_to 3 (k' := 22) (ls' := [some (.ref a0), some (.int a1), some (.int a2), some (.int a3), some (.int a4), none]) (st' := [.int a4, .int a3, .ref a0]) (h' := h5) rfl ?_
        refine mX_ckc (m := mcl (mE mtab d 153 [.ref a0, .int a3, .int a4] h5) 0 23 [some (.ref a0), some (.int a1), some (.int a2), some (.int a3), some (.int a4), none] []) rfl ?_
        refine mk_cV ?_
        intro h6
        refine mX_to 1 (k' := 24) (ls' := [some (.ref a0), some (.int a1), some (.int a2), some (.int a3), some (.int a4), none]) (st' := [.ref a0]) (h' := h6) rfl ?_
        refine mX_ckc (m := mcl (mE mtab d 173 [.ref a0] h6) 1 25 [some (.ref a0), some (.int a1), some (.int a2), some (.int a3), some (.int a4), none] []) rfl ?_
        refine mk_cI ?_
        intro x8 h7
        refine mX_br (t := 26) (f := 28) (ls' := [some (.ref a0), some (.int a1), some (.int a2), some (.int a3), some (.int a4), none]) (st' := []) (h' := h7) rfl ?_ ?_
        · refine mX_to 2 (k' := 29) (ls' := [some (.ref a0), some (.int a1), some (.int a2), some (.int a3), some (.int a4), none]) (st' := [.int 1]) (h' := h7) rfl ?_
          rfl
        · refine mX_to 1 (k' := 29) (ls' := [some (.ref a0), some (.int a1), some (.int a2), some (.int a3), some (.int a4), none]) (st' := [.int 0]) (h' := h7) rfl ?_
          rfl
theorem D_X11_pair (d : Nat) (h : MH) (a0 : Nat) (a1 : Int32) (a2 : Int32) (a3 : Int32) (a4 : Int32) : mE mtab (d + 1) 181 [.ref a0, .int a1, .int a2, .int a3, .int a4] h = ck (kd h a0 = 12) (cI (mE mtab d 180 [.ref a0, .int a1, .int a2, .int a3, .int a4] h) (fun x2 h1 => (if x2 = 0 then some (.int 0, h1) else ck (kd h1 a0 = 12) (cV (mE mtab d 175 [.ref a0] h1) (fun h3 => ck (kd h3 a0 = 12) (cV (mE mtab d 153 [.ref a0, .int a1, .int a2] h3) (fun h4 => ck (kd h4 a0 = 12) (cV (mE mtab d 153 [.ref a0, .int a3, .int a4] h4) (fun h5 => some (.int 1, h5)))))))))) := by
  refine mE_eq (q := (yX11_pair, cX11_pair, 5, (some .boolean), KX11_pair)) (C := KX11_pair) (ls := [some (.ref a0), some (.int a1), some (.int a2), some (.int a3), some (.int a4)]) rfl rfl rfl rfl ?_
  refine mX_to 5 (k' := 5) (ls' := [some (.ref a0), some (.int a1), some (.int a2), some (.int a3), some (.int a4)]) (st' := [.int a4, .int a3, .int a2, .int a1, .ref a0]) (h' := h) rfl ?_
  refine mX_ckc (m := mcl (mE mtab d 180 [.ref a0, .int a1, .int a2, .int a3, .int a4] h) 1 6 [some (.ref a0), some (.int a1), some (.int a2), some (.int a3), some (.int a4)] []) rfl ?_
  refine mk_cI ?_
  intro x2 h1
  refine mX_br (t := 7) (f := 9) (ls' := [some (.ref a0), some (.int a1), some (.int a2), some (.int a3), some (.int a4)]) (st' := []) (h' := h1) rfl ?_ ?_
  · refine mX_to 1 (k' := 8) (ls' := [some (.ref a0), some (.int a1), some (.int a2), some (.int a3), some (.int a4)]) (st' := [.int 0]) (h' := h1) rfl ?_
    exact mX_retb (by decide) rfl
  · refine mX_to 1 (k' := 10) (ls' := [some (.ref a0), some (.int a1), some (.int a2), some (.int a3), some (.int a4)]) (st' := [.ref a0]) (h' := h1) rfl ?_
    refine mX_ckc (m := mcl (mE mtab d 175 [.ref a0] h1) 0 11 [some (.ref a0), some (.int a1), some (.int a2), some (.int a3), some (.int a4)] []) rfl ?_
    refine mk_cV ?_
    intro h3
    refine mX_to 3 (k' := 14) (ls' := [some (.ref a0), some (.int a1), some (.int a2), some (.int a3), some (.int a4)]) (st' := [.int a2, .int a1, .ref a0]) (h' := h3) rfl ?_
    refine mX_ckc (m := mcl (mE mtab d 153 [.ref a0, .int a1, .int a2] h3) 0 15 [some (.ref a0), some (.int a1), some (.int a2), some (.int a3), some (.int a4)] []) rfl ?_
    refine mk_cV ?_
    intro h4
    refine mX_to 3 (k' := 18) (ls' := [some (.ref a0), some (.int a1), some (.int a2), some (.int a3), some (.int a4)]) (st' := [.int a4, .int a3, .ref a0]) (h' := h4) rfl ?_
    refine mX_ckc (m := mcl (mE mtab d 153 [.ref a0, .int a3, .int a4] h4) 0 19 [some (.ref a0), some (.int a1), some (.int a2), some (.int a3), some (.int a4)] []) rfl ?_
    refine mk_cV ?_
    intro h5
    refine mX_to 1 (k' := 20) (ls' := [some (.ref a0), some (.int a1), some (.int a2), some (.int a3), some (.int a4)]) (st' := [.int 1]) (h' := h5) rfl ?_
    exact mX_retb (by decide) rfl
theorem D_X9_clear (d : Nat) (h : MH) (a0 : Nat) (a1 : Int32) (a2 : Int32) : mE mtab (d + 1) 182 [.ref a0, .int a1, .int a2] h = ck (kd h a0 = 10) (ck ((kd h (gR h a0 4) = 20 ∨ kd h (gR h a0 4) = 24) ∧ ib a1 (ln h (gR h a0 4))) ((if (gI h (gR h a0 4) (ix a1)) < a2 then some (.int 0, h) else ck (kd h a0 = 10) (ck ((kd h (gR h a0 4) = 20 ∨ kd h (gR h a0 4) = 24) ∧ ib a1 (ln h (gR h a0 4))) (ck (kd h (gR h a0 4) = 20 ∧ ib a1 (ln h (gR h a0 4))) (lt_ (sI h (gR h a0 4) (ix a1) ((gI h (gR h a0 4) (ix a1)) - a2)) fun h1 => ck (kd h1 a0 = 10) (cI (mE mtab d 146 [.ref a0] h1) (fun x3 h2 => (if x3 = 0 then ck (kd h2 a0 = 10) (ck ((kd h2 (gR h2 a0 4) = 20 ∨ kd h2 (gR h2 a0 4) = 24) ∧ ib a1 (ln h2 (gR h2 a0 4))) (ck (kd h2 (gR h2 a0 4) = 20 ∧ ib a1 (ln h2 (gR h2 a0 4))) (lt_ (sI h2 (gR h2 a0 4) (ix a1) ((gI h2 (gR h2 a0 4) (ix a1)) + a2)) fun h4 => some (.int 0, h4)))) else some (.int 1, h2)))))))))) := by
  refine mE_eq (q := (yX9_clear, cX9_clear, 3, (some .boolean), KX9_clear)) (C := KX9_clear) (ls := [some (.ref a0), some (.int a1), some (.int a2)]) rfl rfl rfl rfl ?_
  refine mX_to 1 (k' := 1) (ls' := [some (.ref a0), some (.int a1), some (.int a2)]) (st' := [.ref a0]) (h' := h) rfl ?_
  refine mX_ck (k' := 2) (ls' := [some (.ref a0), some (.int a1), some (.int a2)]) (st' := [.ref (gR h a0 4)]) (h' := h) rfl ?_
  refine mX_to 1 (k' := 3) (ls' := [some (.ref a0), some (.int a1), some (.int a2)]) (st' := [.int a1, .ref (gR h a0 4)]) (h' := h) rfl ?_
  refine mX_ck (k' := 4) (ls' := [some (.ref a0), some (.int a1), some (.int a2)]) (st' := [.int (gI h (gR h a0 4) (ix a1))]) (h' := h) rfl ?_
  refine mX_to 1 (k' := 5) (ls' := [some (.ref a0), some (.int a1), some (.int a2)]) (st' := [.int a2, .int (gI h (gR h a0 4) (ix a1))]) (h' := h) rfl ?_
  refine mX_br (t := 6) (f := 8) (ls' := [some (.ref a0), some (.int a1), some (.int a2)]) (st' := []) (h' := h) rfl ?_ ?_
  · refine mX_to 1 (k' := 7) (ls' := [some (.ref a0), some (.int a1), some (.int a2)]) (st' := [.int 0]) (h' := h) rfl ?_
    exact mX_retb (by decide) rfl
  · refine mX_to 1 (k' := 9) (ls' := [some (.ref a0), some (.int a1), some (.int a2)]) (st' := [.ref a0]) (h' := h) rfl ?_
    refine mX_ck (k' := 10) (ls' := [some (.ref a0), some (.int a1), some (.int a2)]) (st' := [.ref (gR h a0 4)]) (h' := h) rfl ?_
    refine mX_to 2 (k' := 12) (ls' := [some (.ref a0), some (.int a1), some (.int a2)]) (st' := [.int a1, .ref (gR h a0 4), .int a1, .ref (gR h a0 4)]) (h' := h) rfl ?_
    refine mX_ck (k' := 13) (ls' := [some (.ref a0), some (.int a1), some (.int a2)]) (st' := [.int (gI h (gR h a0 4) (ix a1)), .int a1, .ref (gR h a0 4)]) (h' := h) rfl ?_
    refine mX_to 2 (k' := 15) (ls' := [some (.ref a0), some (.int a1), some (.int a2)]) (st' := [.int ((gI h (gR h a0 4) (ix a1)) - a2), .int a1, .ref (gR h a0 4)]) (h' := h) rfl ?_
    refine mX_ck (k' := 16) (ls' := [some (.ref a0), some (.int a1), some (.int a2)]) (st' := []) (h' := (sI h (gR h a0 4) (ix a1) ((gI h (gR h a0 4) (ix a1)) - a2))) rfl ?_
    refine lt_gen (X := fun h1 : MH => mX (mE mtab d) KX9_clear 16 [some (.ref a0), some (.int a1), some (.int a2)] [] h1) fun h1 => ?_
    refine mX_to 1 (k' := 17) (ls' := [some (.ref a0), some (.int a1), some (.int a2)]) (st' := [.ref a0]) (h' := h1) rfl ?_
    refine mX_ckc (m := mcl (mE mtab d 146 [.ref a0] h1) 1 18 [some (.ref a0), some (.int a1), some (.int a2)] []) rfl ?_
    refine mk_cI ?_
    intro x3 h2
    refine mX_br (t := 21) (f := 19) (ls' := [some (.ref a0), some (.int a1), some (.int a2)]) (st' := []) (h' := h2) rfl ?_ ?_
    · refine mX_to 1 (k' := 22) (ls' := [some (.ref a0), some (.int a1), some (.int a2)]) (st' := [.ref a0]) (h' := h2) rfl ?_
      refine mX_ck (k' := 23) (ls' := [some (.ref a0), some (.int a1), some (.int a2)]) (st' := [.ref (gR h2 a0 4)]) (h' := h2) rfl ?_
      refine mX_to 2 (k' := 25) (ls' := [some (.ref a0), some (.int a1), some (.int a2)]) (st' := [.int a1, .ref (gR h2 a0 4), .int a1, .ref (gR h2 a0 4)]) (h' := h2) rfl ?_
      refine mX_ck (k' := 26) (ls' := [some (.ref a0), some (.int a1), some (.int a2)]) (st' := [.int (gI h2 (gR h2 a0 4) (ix a1)), .int a1, .ref (gR h2 a0 4)]) (h' := h2) rfl ?_
      refine mX_to 2 (k' := 28) (ls' := [some (.ref a0), some (.int a1), some (.int a2)]) (st' := [.int ((gI h2 (gR h2 a0 4) (ix a1)) + a2), .int a1, .ref (gR h2 a0 4)]) (h' := h2) rfl ?_
      refine mX_ck (k' := 29) (ls' := [some (.ref a0), some (.int a1), some (.int a2)]) (st' := []) (h' := (sI h2 (gR h2 a0 4) (ix a1) ((gI h2 (gR h2 a0 4) (ix a1)) + a2))) rfl ?_
      refine lt_gen (X := fun h4 : MH => mX (mE mtab d) KX9_clear 29 [some (.ref a0), some (.int a1), some (.int a2)] [] h4) fun h4 => ?_
      refine mX_to 1 (k' := 30) (ls' := [some (.ref a0), some (.int a1), some (.int a2)]) (st' := [.int 0]) (h' := h4) rfl ?_
      exact mX_retb (by decide) rfl
    · refine mX_to 1 (k' := 20) (ls' := [some (.ref a0), some (.int a1), some (.int a2)]) (st' := [.int 1]) (h' := h2) rfl ?_
      exact mX_retb (by decide) rfl
theorem D_X0_shovels (d : Nat) (h : MH) (a0 : Nat) (a1 : Int32) (a2 : Int32) : mE mtab (d + 1) 183 [.ref a0, .int a1, .int a2] h = ck (kd h a0 = 1) (ck (kd h a0 = 1) (ck (kd h (gR h a0 1) = 7) (cV (mE mtab d 137 [.ref (gR h a0 1), .ref (gR h a0 0)] h) (fun h1 => ck (kd h1 a0 = 1) (ck (kd h1 a0 = 1) (ck (kd h1 (gR h1 a0 0) = 10) (cI (mE mtab d 182 [.ref (gR h1 a0 0), .int a1, .int a2] h1) (fun x3 h2 => ck (kd h2 (gR h1 a0 1) = 7) (cI (mE mtab d 148 [.ref (gR h1 a0 1), .int x3] h2) (fun x5 h4 => ck (mrt 1 x5) (some (.int x5, h4)))))))))))) := by
  refine mE_eq (q := (yX0_shovels, cX0_shovels, 3, (some .boolean), KX0_shovels)) (C := KX0_shovels) (ls := [some (.ref a0), some (.int a1), some (.int a2)]) rfl rfl rfl rfl ?_
  refine mX_to 1 (k' := 1) (ls' := [some (.ref a0), some (.int a1), some (.int a2)]) (st' := [.ref a0]) (h' := h) rfl ?_
  refine mX_ck (k' := 2) (ls' := [some (.ref a0), some (.int a1), some (.int a2)]) (st' := [.ref (gR h a0 1)]) (h' := h) rfl ?_
  refine mX_to 1 (k' := 3) (ls' := [some (.ref a0), some (.int a1), some (.int a2)]) (st' := [.ref a0, .ref (gR h a0 1)]) (h' := h) rfl ?_
  refine mX_ck (k' := 4) (ls' := [some (.ref a0), some (.int a1), some (.int a2)]) (st' := [.ref (gR h a0 0), .ref (gR h a0 1)]) (h' := h) rfl ?_
  refine mX_ckc (m := mcl (mE mtab d 137 [.ref (gR h a0 1), .ref (gR h a0 0)] h) 0 5 [some (.ref a0), some (.int a1), some (.int a2)] []) rfl ?_
  refine mk_cV ?_
  intro h1
  refine mX_to 1 (k' := 6) (ls' := [some (.ref a0), some (.int a1), some (.int a2)]) (st' := [.ref a0]) (h' := h1) rfl ?_
  refine mX_ck (k' := 7) (ls' := [some (.ref a0), some (.int a1), some (.int a2)]) (st' := [.ref (gR h1 a0 1)]) (h' := h1) rfl ?_
  refine mX_to 1 (k' := 8) (ls' := [some (.ref a0), some (.int a1), some (.int a2)]) (st' := [.ref a0, .ref (gR h1 a0 1)]) (h' := h1) rfl ?_
  refine mX_ck (k' := 9) (ls' := [some (.ref a0), some (.int a1), some (.int a2)]) (st' := [.ref (gR h1 a0 0), .ref (gR h1 a0 1)]) (h' := h1) rfl ?_
  refine mX_to 2 (k' := 11) (ls' := [some (.ref a0), some (.int a1), some (.int a2)]) (st' := [.int a2, .int a1, .ref (gR h1 a0 0), .ref (gR h1 a0 1)]) (h' := h1) rfl ?_
  refine mX_ckc (m := mcl (mE mtab d 182 [.ref (gR h1 a0 0), .int a1, .int a2] h1) 1 12 [some (.ref a0), some (.int a1), some (.int a2)] [.ref (gR h1 a0 1)]) rfl ?_
  refine mk_cI ?_
  intro x3 h2
  refine mX_ckc (m := mcl (mE mtab d 148 [.ref (gR h1 a0 1), .int x3] h2) 1 13 [some (.ref a0), some (.int a1), some (.int a2)] []) rfl ?_
  refine mk_cI ?_
  intro x5 h4
  exact mX_retc rfl
theorem D_X10_shovel (d : Nat) (h : MH) (a0 : Nat) (a1 : Int32) (a2 : Int32) : mE mtab (d + 1) 184 [.ref a0, .int a1, .int a2] h = cI (mE mtab d 11 [.int a1, .int 0, .int 8] h) (fun x2 h1 => (if x2 = 0 then some (.int 0, h1) else cI (mE mtab d 11 [.int a2, .int 1, .int 9] h1) (fun x4 h3 => (if x4 = 0 then some (.int 0, h3) else ck (kd h3 a0 = 11) (ck (kd h3 (gR h3 a0 0) = 1) (cI (mE mtab d 183 [.ref (gR h3 a0 0), .int a1, .int a2] h3) (fun x6 h5 => ck (mrt 1 x6) (some (.int x6, h5))))))))) := by
  refine mE_eq (q := (yX10_shovel, cX10_shovel, 3, (some .boolean), KX10_shovel)) (C := KX10_shovel) (ls := [some (.ref a0), some (.int a1), some (.int a2)]) rfl rfl rfl rfl ?_
  refine mX_to 3 (k' := 3) (ls' := [some (.ref a0), some (.int a1), some (.int a2)]) (st' := [.int 8, .int 0, .int a1]) (h' := h) rfl ?_
  refine mX_cI (o := mE mtab d 11 [.int a1, .int 0, .int 8] h) (k' := 4) (ls' := [some (.ref a0), some (.int a1), some (.int a2)]) (st' := []) rfl ?_
  intro x2 h1
  refine mX_br (t := 10) (f := 5) (ls' := [some (.ref a0), some (.int a1), some (.int a2)]) (st' := []) (h' := h1) rfl ?_ ?_
  · refine mX_to 1 (k' := 11) (ls' := [some (.ref a0), some (.int a1), some (.int a2)]) (st' := [.int 0]) (h' := h1) rfl ?_
    exact mX_retb (by decide) rfl
  · refine mX_to 3 (k' := 8) (ls' := [some (.ref a0), some (.int a1), some (.int a2)]) (st' := [.int 9, .int 1, .int a2]) (h' := h1) rfl ?_
    refine mX_cI (o := mE mtab d 11 [.int a2, .int 1, .int 9] h1) (k' := 9) (ls' := [some (.ref a0), some (.int a1), some (.int a2)]) (st' := []) rfl ?_
    intro x4 h3
    refine mX_br (t := 10) (f := 12) (ls' := [some (.ref a0), some (.int a1), some (.int a2)]) (st' := []) (h' := h3) rfl ?_ ?_
    · refine mX_to 1 (k' := 11) (ls' := [some (.ref a0), some (.int a1), some (.int a2)]) (st' := [.int 0]) (h' := h3) rfl ?_
      exact mX_retb (by decide) rfl
    · refine mX_to 1 (k' := 13) (ls' := [some (.ref a0), some (.int a1), some (.int a2)]) (st' := [.ref a0]) (h' := h3) rfl ?_
      refine mX_ck (k' := 14) (ls' := [some (.ref a0), some (.int a1), some (.int a2)]) (st' := [.ref (gR h3 a0 0)]) (h' := h3) rfl ?_
      refine mX_to 2 (k' := 16) (ls' := [some (.ref a0), some (.int a1), some (.int a2)]) (st' := [.int a2, .int a1, .ref (gR h3 a0 0)]) (h' := h3) rfl ?_
      refine mX_ckc (m := mcl (mE mtab d 183 [.ref (gR h3 a0 0), .int a1, .int a2] h3) 1 17 [some (.ref a0), some (.int a1), some (.int a2)] []) rfl ?_
      refine mk_cI ?_
      intro x6 h5
      exact mX_retc rfl
theorem D_X11_canShovel_34 (d : Nat) (h : MH) (l0 : Nat) (l1 : Int32) (l2 : Int32) (s0 : Int32) : mX (mE mtab d) KX11_canShovel 34 [some (.ref l0), some (.int l1), some (.int l2), none] [.int s0] h = ck (kd h l0 = 12) (ck ((kd h (gR h l0 0) = 20 ∨ kd h (gR h l0 0) = 24) ∧ ib (13 + l1) (ln h (gR h l0 0))) (ck (kd h (gR h l0 0) = 20 ∧ ib (13 + l1) (ln h (gR h l0 0))) (lt_ (sI h (gR h l0 0) (ix (13 + l1)) ((gI h (gR h l0 0) (ix (13 + l1))) + l2)) fun h8 => ck (mrt 1 s0) (some (.int s0, h8))))) := by
  refine mX_to 2 (k' := 36) (ls' := [some (.ref l0), some (.int l1), some (.int l2), some (.int s0)]) (st' := [.ref l0]) (h' := h) rfl ?_
  refine mX_ck (k' := 37) (ls' := [some (.ref l0), some (.int l1), some (.int l2), some (.int s0)]) (st' := [.ref (gR h l0 0)]) (h' := h) rfl ?_
  refine mX_to 4 (k' := 41) (ls' := [some (.ref l0), some (.int l1), some (.int l2), some (.int s0)]) (st' := [.int (13 + l1), .ref (gR h l0 0), .int (13 + l1), .ref (gR h l0 0)]) (h' := h) rfl ?_
  refine mX_ck (k' := 42) (ls' := [some (.ref l0), some (.int l1), some (.int l2), some (.int s0)]) (st' := [.int (gI h (gR h l0 0) (ix (13 + l1))), .int (13 + l1), .ref (gR h l0 0)]) (h' := h) rfl ?_
  refine mX_to 2 (k' := 44) (ls' := [some (.ref l0), some (.int l1), some (.int l2), some (.int s0)]) (st' := [.int ((gI h (gR h l0 0) (ix (13 + l1))) + l2), .int (13 + l1), .ref (gR h l0 0)]) (h' := h) rfl ?_
  refine mX_ck (k' := 45) (ls' := [some (.ref l0), some (.int l1), some (.int l2), some (.int s0)]) (st' := []) (h' := (sI h (gR h l0 0) (ix (13 + l1)) ((gI h (gR h l0 0) (ix (13 + l1))) + l2))) rfl ?_
  refine lt_gen (X := fun h8 : MH => mX (mE mtab d) KX11_canShovel 45 [some (.ref l0), some (.int l1), some (.int l2), some (.int s0)] [] h8) fun h8 => ?_
  refine mX_to 1 (k' := 46) (ls' := [some (.ref l0), some (.int l1), some (.int l2), some (.int s0)]) (st' := [.int s0]) (h' := h8) rfl ?_
  exact mX_retc rfl
theorem D_X11_canShovel (d : Nat) (h : MH) (a0 : Nat) (a1 : Int32) (a2 : Int32) : mE mtab (d + 1) 185 [.ref a0, .int a1, .int a2] h = cI (mE mtab d 15 [.int a1] h) (fun x2 h1 => (if x2 = 0 then some (.int 0, h1) else cI (mE mtab d 14 [.int a2, .int 1, .int 9] h1) (fun x4 h3 => (if x4 = 0 then some (.int 0, h3) else ck (kd h3 a0 = 12) (ck ((kd h3 (gR h3 a0 0) = 20 ∨ kd h3 (gR h3 a0 0) = 24) ∧ ib (13 + a1) (ln h3 (gR h3 a0 0))) ((if (gI h3 (gR h3 a0 0) (ix (13 + a1))) < a2 then some (.int 0, h3) else ck (kd h3 a0 = 12) (ck ((kd h3 (gR h3 a0 0) = 20 ∨ kd h3 (gR h3 a0 0) = 24) ∧ ib (13 + a1) (ln h3 (gR h3 a0 0))) (ck (kd h3 (gR h3 a0 0) = 20 ∧ ib (13 + a1) (ln h3 (gR h3 a0 0))) (lt_ (sI h3 (gR h3 a0 0) (ix (13 + a1)) ((gI h3 (gR h3 a0 0) (ix (13 + a1))) - a2)) fun h5 => ck (kd h5 a0 = 12) (cI (mE mtab d 173 [.ref a0] h5) (fun x7 h6 => (if x7 = 0 then mX (mE mtab d) KX11_canShovel 34 [some (.ref a0), some (.int a1), some (.int a2), none] [.int 1] h6 else mX (mE mtab d) KX11_canShovel 34 [some (.ref a0), some (.int a1), some (.int a2), none] [.int 0] h6))))))))))))) := by
  refine mE_eq (q := (yX11_canShovel, cX11_canShovel, 4, (some .boolean), KX11_canShovel)) (C := KX11_canShovel) (ls := [some (.ref a0), some (.int a1), some (.int a2), none]) rfl rfl rfl rfl ?_
  refine mX_to 1 (k' := 1) (ls' := [some (.ref a0), some (.int a1), some (.int a2), none]) (st' := [.int a1]) (h' := h) rfl ?_
  refine mX_cI (o := mE mtab d 15 [.int a1] h) (k' := 2) (ls' := [some (.ref a0), some (.int a1), some (.int a2), none]) (st' := []) rfl ?_
  intro x2 h1
  refine mX_br (t := 16) (f := 3) (ls' := [some (.ref a0), some (.int a1), some (.int a2), none]) (st' := []) (h' := h1) rfl ?_ ?_
  · refine mX_to 1 (k' := 17) (ls' := [some (.ref a0), some (.int a1), some (.int a2), none]) (st' := [.int 0]) (h' := h1) rfl ?_
    exact mX_retb (by decide) rfl
  · refine mX_to 3 (k' := 6) (ls' := [some (.ref a0), some (.int a1), some (.int a2), none]) (st' := [.int 9, .int 1, .int a2]) (h' := h1) rfl ?_
    refine mX_cI (o := mE mtab d 14 [.int a2, .int 1, .int 9] h1) (k' := 7) (ls' := [some (.ref a0), some (.int a1), some (.int a2), none]) (st' := []) rfl ?_
    intro x4 h3
    refine mX_br (t := 16) (f := 8) (ls' := [some (.ref a0), some (.int a1), some (.int a2), none]) (st' := []) (h' := h3) rfl ?_ ?_
    · refine mX_to 1 (k' := 17) (ls' := [some (.ref a0), some (.int a1), some (.int a2), none]) (st' := [.int 0]) (h' := h3) rfl ?_
      exact mX_retb (by decide) rfl
    · refine mX_to 1 (k' := 9) (ls' := [some (.ref a0), some (.int a1), some (.int a2), none]) (st' := [.ref a0]) (h' := h3) rfl ?_
      refine mX_ck (k' := 10) (ls' := [some (.ref a0), some (.int a1), some (.int a2), none]) (st' := [.ref (gR h3 a0 0)]) (h' := h3) rfl ?_
      refine mX_to 3 (k' := 13) (ls' := [some (.ref a0), some (.int a1), some (.int a2), none]) (st' := [.int (13 + a1), .ref (gR h3 a0 0)]) (h' := h3) rfl ?_
      refine mX_ck (k' := 14) (ls' := [some (.ref a0), some (.int a1), some (.int a2), none]) (st' := [.int (gI h3 (gR h3 a0 0) (ix (13 + a1)))]) (h' := h3) rfl ?_
      refine mX_to 1 (k' := 15) (ls' := [some (.ref a0), some (.int a1), some (.int a2), none]) (st' := [.int a2, .int (gI h3 (gR h3 a0 0) (ix (13 + a1)))]) (h' := h3) rfl ?_
      refine mX_br (t := 16) (f := 18) (ls' := [some (.ref a0), some (.int a1), some (.int a2), none]) (st' := []) (h' := h3) rfl ?_ ?_
      · refine mX_to 1 (k' := 17) (ls' := [some (.ref a0), some (.int a1), some (.int a2), none]) (st' := [.int 0]) (h' := h3) rfl ?_
        exact mX_retb (by decide) rfl
      · refine mX_to 1 (k' := 19) (ls' := [some (.ref a0), some (.int a1), some (.int a2), none]) (st' := [.ref a0]) (h' := h3) rfl ?_
        refine mX_ck (k' := 20) (ls' := [some (.ref a0), some (.int a1), some (.int a2), none]) (st' := [.ref (gR h3 a0 0)]) (h' := h3) rfl ?_
        refine mX_to 4 (k' := 24) (ls' := [some (.ref a0), some (.int a1), some (.int a2), none]) (st' := [.int (13 + a1), .ref (gR h3 a0 0), .int (13 + a1), .ref (gR h3 a0 0)]) (h' := h3) rfl ?_
        refine mX_ck (k' := 25) (ls' := [some (.ref a0), some (.int a1), some (.int a2), none]) (st' := [.int (gI h3 (gR h3 a0 0) (ix (13 + a1))), .int (13 + a1), .ref (gR h3 a0 0)]) (h' := h3) rfl ?_
        refine mX_to 2 (k' := 27) (ls' := [some (.ref a0), some (.int a1), some (.int a2), none]) (st' := [.int ((gI h3 (gR h3 a0 0) (ix (13 + a1))) - a2), .int (13 + a1), .ref (gR h3 a0 0)]) (h' := h3) rfl ?_
        refine mX_ck (k' := 28) (ls' := [some (.ref a0), some (.int a1), some (.int a2), none]) (st' := []) (h' := (sI h3 (gR h3 a0 0) (ix (13 + a1)) ((gI h3 (gR h3 a0 0) (ix (13 + a1))) - a2))) rfl ?_
        refine lt_gen (X := fun h5 : MH => mX (mE mtab d) KX11_canShovel 28 [some (.ref a0), some (.int a1), some (.int a2), none] [] h5) fun h5 => ?_
        refine mX_to 1 (k' := 29) (ls' := [some (.ref a0), some (.int a1), some (.int a2), none]) (st' := [.ref a0]) (h' := h5) rfl ?_
        refine mX_ckc (m := mcl (mE mtab d 173 [.ref a0] h5) 1 30 [some (.ref a0), some (.int a1), some (.int a2), none] []) rfl ?_
        refine mk_cI ?_
        intro x7 h6
        refine mX_br (t := 31) (f := 33) (ls' := [some (.ref a0), some (.int a1), some (.int a2), none]) (st' := []) (h' := h6) rfl ?_ ?_
        · refine mX_to 2 (k' := 34) (ls' := [some (.ref a0), some (.int a1), some (.int a2), none]) (st' := [.int 1]) (h' := h6) rfl ?_
          rfl
        · refine mX_to 1 (k' := 34) (ls' := [some (.ref a0), some (.int a1), some (.int a2), none]) (st' := [.int 0]) (h' := h6) rfl ?_
          rfl
theorem D_X11_shovel (d : Nat) (h : MH) (a0 : Nat) (a1 : Int32) (a2 : Int32) : mE mtab (d + 1) 186 [.ref a0, .int a1, .int a2] h = ck (kd h a0 = 12) (cI (mE mtab d 185 [.ref a0, .int a1, .int a2] h) (fun x2 h1 => (if x2 = 0 then some (.int 0, h1) else ck (kd h1 a0 = 12) (cV (mE mtab d 175 [.ref a0] h1) (fun h3 => ck (kd h3 a0 = 12) (ck ((kd h3 (gR h3 a0 0) = 20 ∨ kd h3 (gR h3 a0 0) = 24) ∧ ib (13 + a1) (ln h3 (gR h3 a0 0))) (ck (kd h3 (gR h3 a0 0) = 20 ∧ ib (13 + a1) (ln h3 (gR h3 a0 0))) (lt_ (sI h3 (gR h3 a0 0) (ix (13 + a1)) ((gI h3 (gR h3 a0 0) (ix (13 + a1))) - a2)) fun h4 => some (.int 1, h4))))))))) := by
  refine mE_eq (q := (yX11_shovel, cX11_shovel, 3, (some .boolean), KX11_shovel)) (C := KX11_shovel) (ls := [some (.ref a0), some (.int a1), some (.int a2)]) rfl rfl rfl rfl ?_
  refine mX_to 3 (k' := 3) (ls' := [some (.ref a0), some (.int a1), some (.int a2)]) (st' := [.int a2, .int a1, .ref a0]) (h' := h) rfl ?_
  refine mX_ckc (m := mcl (mE mtab d 185 [.ref a0, .int a1, .int a2] h) 1 4 [some (.ref a0), some (.int a1), some (.int a2)] []) rfl ?_
  refine mk_cI ?_
  intro x2 h1
  refine mX_br (t := 5) (f := 7) (ls' := [some (.ref a0), some (.int a1), some (.int a2)]) (st' := []) (h' := h1) rfl ?_ ?_
  · refine mX_to 1 (k' := 6) (ls' := [some (.ref a0), some (.int a1), some (.int a2)]) (st' := [.int 0]) (h' := h1) rfl ?_
    exact mX_retb (by decide) rfl
  · refine mX_to 1 (k' := 8) (ls' := [some (.ref a0), some (.int a1), some (.int a2)]) (st' := [.ref a0]) (h' := h1) rfl ?_
    refine mX_ckc (m := mcl (mE mtab d 175 [.ref a0] h1) 0 9 [some (.ref a0), some (.int a1), some (.int a2)] []) rfl ?_
    refine mk_cV ?_
    intro h3
    refine mX_to 1 (k' := 10) (ls' := [some (.ref a0), some (.int a1), some (.int a2)]) (st' := [.ref a0]) (h' := h3) rfl ?_
    refine mX_ck (k' := 11) (ls' := [some (.ref a0), some (.int a1), some (.int a2)]) (st' := [.ref (gR h3 a0 0)]) (h' := h3) rfl ?_
    refine mX_to 4 (k' := 15) (ls' := [some (.ref a0), some (.int a1), some (.int a2)]) (st' := [.int (13 + a1), .ref (gR h3 a0 0), .int (13 + a1), .ref (gR h3 a0 0)]) (h' := h3) rfl ?_
    refine mX_ck (k' := 16) (ls' := [some (.ref a0), some (.int a1), some (.int a2)]) (st' := [.int (gI h3 (gR h3 a0 0) (ix (13 + a1))), .int (13 + a1), .ref (gR h3 a0 0)]) (h' := h3) rfl ?_
    refine mX_to 2 (k' := 18) (ls' := [some (.ref a0), some (.int a1), some (.int a2)]) (st' := [.int ((gI h3 (gR h3 a0 0) (ix (13 + a1))) - a2), .int (13 + a1), .ref (gR h3 a0 0)]) (h' := h3) rfl ?_
    refine mX_ck (k' := 19) (ls' := [some (.ref a0), some (.int a1), some (.int a2)]) (st' := []) (h' := (sI h3 (gR h3 a0 0) (ix (13 + a1)) ((gI h3 (gR h3 a0 0) (ix (13 + a1))) - a2))) rfl ?_
    refine lt_gen (X := fun h4 : MH => mX (mE mtab d) KX11_shovel 19 [some (.ref a0), some (.int a1), some (.int a2)] [] h4) fun h4 => ?_
    refine mX_to 1 (k' := 20) (ls' := [some (.ref a0), some (.int a1), some (.int a2)]) (st' := [.int 1]) (h' := h4) rfl ?_
    exact mX_retb (by decide) rfl
theorem D_X9_draw (d : Nat) (h : MH) (a0 : Nat) : mE mtab (d + 1) 187 [.ref a0] h = ck (kd h a0 = 10) (lt_ (gI h a0 6) fun v1 => ck (kd h a0 = 10) (ck (kd h a0 = 10) (lt_ (sI h a0 6 ((((gI h a0 6) * 601) + 467) - (((gI h a0 6) * 601) + 467) / 30841 * 30841)) fun h2 => some (.int v1, h2)))) := by
  refine mE_eq (q := (yX9_draw, cX9_draw, 2, (some .int), KX9_draw)) (C := KX9_draw) (ls := [some (.ref a0), none]) rfl rfl rfl rfl ?_
  refine mX_to 1 (k' := 1) (ls' := [some (.ref a0), none]) (st' := [.ref a0]) (h' := h) rfl ?_
  refine mX_ck (k' := 2) (ls' := [some (.ref a0), none]) (st' := [.int (gI h a0 6)]) (h' := h) rfl ?_
  refine lt_gen (X := fun v1 : Int32 => mX (mE mtab d) KX9_draw 2 [some (.ref a0), none] [.int v1] h) fun v1 => ?_
  refine mX_to 3 (k' := 5) (ls' := [some (.ref a0), some (.int v1)]) (st' := [.ref a0, .ref a0]) (h' := h) rfl ?_
  refine mX_ck (k' := 6) (ls' := [some (.ref a0), some (.int v1)]) (st' := [.int (gI h a0 6), .ref a0]) (h' := h) rfl ?_
  refine mX_to 5 (k' := 11) (ls' := [some (.ref a0), some (.int v1)]) (st' := [.int 30841, .int (((gI h a0 6) * 601) + 467), .ref a0]) (h' := h) rfl ?_
  refine mX_ckt (c := ¬ (30841 : Int32) = 0) (k' := 12) (ls' := [some (.ref a0), some (.int v1)]) (st' := [.int ((((gI h a0 6) * 601) + 467) - (((gI h a0 6) * 601) + 467) / 30841 * 30841), .ref a0]) (h' := h) (by decide) rfl ?_
  refine mX_ck (k' := 13) (ls' := [some (.ref a0), some (.int v1)]) (st' := []) (h' := (sI h a0 6 ((((gI h a0 6) * 601) + 467) - (((gI h a0 6) * 601) + 467) / 30841 * 30841))) rfl ?_
  refine lt_gen (X := fun h2 : MH => mX (mE mtab d) KX9_draw 13 [some (.ref a0), some (.int v1)] [] h2) fun h2 => ?_
  refine mX_to 1 (k' := 14) (ls' := [some (.ref a0), some (.int v1)]) (st' := [.int v1]) (h' := h2) rfl ?_
  exact mX_reti rfl
