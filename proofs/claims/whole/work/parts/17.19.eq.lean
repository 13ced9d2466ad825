/-! EQUATIONS OF THE METHODS (written by wip/gen/dgen.py) -/
theorem D_X11_paid (d : Nat) (h : MH) (a0 : Nat) (a1 : Int32) : mE mtab (d + 1) 271 [.ref a0, .int a1] h = ck (kd h a0 = 12) (cI (mE mtab d 270 [.ref a0] h) (fun x2 h1 => (if x2 = 0 then some (.int (-1), h1) else (if a1 = 0 then ck (kd h1 a0 = 12) (ck (kd h1 a0 = 12) (cI (mE mtab d 266 [.ref a0, .ref (gR h1 a0 30)] h1) (fun x4 h3 => some (.int x4, h3)))) else ck (kd h1 a0 = 12) (ck (kd h1 a0 = 12) (cI (mE mtab d 266 [.ref a0, .ref (gR h1 a0 30)] h1) (fun x6 h5 => ck (kd h5 a0 = 12) (cI (mE mtab d 267 [.ref a0, .int x6] h5) (fun x8 h7 => some (.int x8, h7)))))))))) := by
  refine mE_eq (q := (yX11_paid, cX11_paid, 2, (some .int), KX11_paid)) (C := KX11_paid) (ls := [some (.ref a0), some (.int a1)]) rfl rfl rfl rfl ?_
  refine mX_to 1 (k' := 1) (ls' := [some (.ref a0), some (.int a1)]) (st' := [.ref a0]) (h' := h) rfl ?_
  refine mX_ckc (m := mcl (mE mtab d 270 [.ref a0] h) 1 2 [some (.ref a0), some (.int a1)] []) rfl ?_
  refine mk_cI ?_
  intro x2 h1
  refine mX_br (t := 3) (f := 5) (ls' := [some (.ref a0), some (.int a1)]) (st' := []) (h' := h1) rfl ?_ ?_
  · refine mX_to 2 (k' := 18) (ls' := [some (.ref a0), some (.int a1)]) (st' := [.int (-1)]) (h' := h1) rfl ?_
    exact mX_reti rfl
  · refine mX_to 1 (k' := 6) (ls' := [some (.ref a0), some (.int a1)]) (st' := [.int a1]) (h' := h1) rfl ?_
    refine mX_br (t := 14) (f := 7) (ls' := [some (.ref a0), some (.int a1)]) (st' := []) (h' := h1) rfl ?_ ?_
    · refine mX_to 2 (k' := 16) (ls' := [some (.ref a0), some (.int a1)]) (st' := [.ref a0, .ref a0]) (h' := h1) rfl ?_
      refine mX_ck (k' := 17) (ls' := [some (.ref a0), some (.int a1)]) (st' := [.ref (gR h1 a0 30), .ref a0]) (h' := h1) rfl ?_
      refine mX_ckc (m := mcl (mE mtab d 266 [.ref a0, .ref (gR h1 a0 30)] h1) 1 18 [some (.ref a0), some (.int a1)] []) rfl ?_
      refine mk_cI ?_
      intro x4 h3
      exact mX_reti rfl
    · refine mX_to 3 (k' := 10) (ls' := [some (.ref a0), some (.int a1)]) (st' := [.ref a0, .ref a0, .ref a0]) (h' := h1) rfl ?_
      refine mX_ck (k' := 11) (ls' := [some (.ref a0), some (.int a1)]) (st' := [.ref (gR h1 a0 30), .ref a0, .ref a0]) (h' := h1) rfl ?_
      refine mX_ckc (m := mcl (mE mtab d 266 [.ref a0, .ref (gR h1 a0 30)] h1) 1 12 [some (.ref a0), some (.int a1)] [.ref a0]) rfl ?_
      refine mk_cI ?_
      intro x6 h5
      refine mX_ckc (m := mcl (mE mtab d 267 [.ref a0, .int x6] h5) 1 13 [some (.ref a0), some (.int a1)] []) rfl ?_
      refine mk_cI ?_
      intro x8 h7
      refine mX_to 1 (k' := 18) (ls' := [some (.ref a0), some (.int a1)]) (st' := [.int x8]) (h' := h7) rfl ?_
      exact mX_reti rfl
theorem D_X10_stand (d : Nat) (h : MH) (a0 : Nat) (a1 : Int32) : mE mtab (d + 1) 272 [.ref a0, .int a1] h = ck (kd h a0 = 11) (ck (kd h (gR h a0 0) = 1) (ck (kd h (gR h (gR h a0 0) 2) = 3) (cI (mE mtab d 11 [.int a1, .int 0, .int ((gI h (gR h (gR h a0 0) 2) 3) - 1)] h) (fun x2 h1 => (if x2 = 0 then some (.int (-1), h1) else ck (kd h1 a0 = 11) (ck (kd h1 (gR h1 a0 0) = 1) (ck (kd h1 a0 = 11) (ck (kd h1 (gR h1 a0 0) = 1) (ck (kd h1 (gR h1 (gR h1 a0 0) 0) = 10) (cI (mE mtab d 139 [.ref (gR h1 (gR h1 a0 0) 0)] h1) (fun x4 h3 => ck (kd h3 (gR h1 (gR h1 a0 0) 2) = 3) (cI (mE mtab d 263 [.ref (gR h1 (gR h1 a0 0) 2), .int x4] h3) (fun x6 h5 => (if x6 = (-1) then some (.int (-1), h5) else cI (mE mtab d 257 [.int x6, .int a1] h5) (fun x8 h7 => (if x8 = 0 then some (.int (-1), h7) else ck (kd h7 a0 = 11) (ck (kd h7 (gR h7 a0 0) = 1) (ck (kd h7 (gR h7 (gR h7 a0 0) 2) = 3) (ck ((kd h7 (gR h7 (gR h7 (gR h7 a0 0) 2) 2) = 20 ∨ kd h7 (gR h7 (gR h7 (gR h7 a0 0) 2) 2) = 24) ∧ ib a1 (ln h7 (gR h7 (gR h7 (gR h7 a0 0) 2) 2))) (some (.int (gI h7 (gR h7 (gR h7 (gR h7 a0 0) 2) 2) (ix a1)), h7))))))))))))))))))))) := by
  refine mE_eq (q := (yX10_stand, cX10_stand, 3, (some .int), KX10_stand)) (C := KX10_stand) (ls := [some (.ref a0), some (.int a1), none]) rfl rfl rfl rfl ?_
  refine mX_to 3 (k' := 3) (ls' := [some (.ref a0), some (.int a1), none]) (st' := [.ref a0, .int 0, .int a1]) (h' := h) rfl ?_
  refine mX_ck (k' := 4) (ls' := [some (.ref a0), some (.int a1), none]) (st' := [.ref (gR h a0 0), .int 0, .int a1]) (h' := h) rfl ?_
  refine mX_ck (k' := 5) (ls' := [some (.ref a0), some (.int a1), none]) (st' := [.ref (gR h (gR h a0 0) 2), .int 0, .int a1]) (h' := h) rfl ?_
  refine mX_ck (k' := 6) (ls' := [some (.ref a0), some (.int a1), none]) (st' := [.int (gI h (gR h (gR h a0 0) 2) 3), .int 0, .int a1]) (h' := h) rfl ?_
  refine mX_to 2 (k' := 8) (ls' := [some (.ref a0), some (.int a1), none]) (st' := [.int ((gI h (gR h (gR h a0 0) 2) 3) - 1), .int 0, .int a1]) (h' := h) rfl ?_
  refine mX_cI (o := mE mtab d 11 [.int a1, .int 0, .int ((gI h (gR h (gR h a0 0) 2) 3) - 1)] h) (k' := 9) (ls' := [some (.ref a0), some (.int a1), none]) (st' := []) rfl ?_
  intro x2 h1
  refine mX_br (t := 10) (f := 12) (ls' := [some (.ref a0), some (.int a1), none]) (st' := []) (h' := h1) rfl ?_ ?_
  · refine mX_to 1 (k' := 11) (ls' := [some (.ref a0), some (.int a1), none]) (st' := [.int (-1)]) (h' := h1) rfl ?_
    exact mX_reti rfl
  · refine mX_to 1 (k' := 13) (ls' := [some (.ref a0), some (.int a1), none]) (st' := [.ref a0]) (h' := h1) rfl ?_
    refine mX_ck (k' := 14) (ls' := [some (.ref a0), some (.int a1), none]) (st' := [.ref (gR h1 a0 0)]) (h' := h1) rfl ?_
    refine mX_ck (k' := 15) (ls' := [some (.ref a0), some (.int a1), none]) (st' := [.ref (gR h1 (gR h1 a0 0) 2)]) (h' := h1) rfl ?_
    refine mX_to 1 (k' := 16) (ls' := [some (.ref a0), some (.int a1), none]) (st' := [.ref a0, .ref (gR h1 (gR h1 a0 0) 2)]) (h' := h1) rfl ?_
    refine mX_ck (k' := 17) (ls' := [some (.ref a0), some (.int a1), none]) (st' := [.ref (gR h1 a0 0), .ref (gR h1 (gR h1 a0 0) 2)]) (h' := h1) rfl ?_
    refine mX_ck (k' := 18) (ls' := [some (.ref a0), some (.int a1), none]) (st' := [.ref (gR h1 (gR h1 a0 0) 0), .ref (gR h1 (gR h1 a0 0) 2)]) (h' := h1) rfl ?_
    refine mX_ckc (m := mcl (mE mtab d 139 [.ref (gR h1 (gR h1 a0 0) 0)] h1) 1 19 [some (.ref a0), some (.int a1), none] [.ref (gR h1 (gR h1 a0 0) 2)]) rfl ?_
    refine mk_cI ?_
    intro x4 h3
    refine mX_ckc (m := mcl (mE mtab d 263 [.ref (gR h1 (gR h1 a0 0) 2), .int x4] h3) 1 20 [some (.ref a0), some (.int a1), none] []) rfl ?_
    refine mk_cI ?_
    intro x6 h5
    refine mX_to 3 (k' := 23) (ls' := [some (.ref a0), some (.int a1), some (.int x6)]) (st' := [.int (-1), .int x6]) (h' := h5) rfl ?_
    refine mX_br (t := 28) (f := 24) (ls' := [some (.ref a0), some (.int a1), some (.int x6)]) (st' := []) (h' := h5) rfl ?_ ?_
    · refine mX_to 1 (k' := 29) (ls' := [some (.ref a0), some (.int a1), some (.int x6)]) (st' := [.int (-1)]) (h' := h5) rfl ?_
      exact mX_reti rfl
    · refine mX_to 2 (k' := 26) (ls' := [some (.ref a0), some (.int a1), some (.int x6)]) (st' := [.int a1, .int x6]) (h' := h5) rfl ?_
      refine mX_cI (o := mE mtab d 257 [.int x6, .int a1] h5) (k' := 27) (ls' := [some (.ref a0), some (.int a1), some (.int x6)]) (st' := []) rfl ?_
      intro x8 h7
      refine mX_br (t := 28) (f := 30) (ls' := [some (.ref a0), some (.int a1), some (.int x6)]) (st' := []) (h' := h7) rfl ?_ ?_
      · refine mX_to 1 (k' := 29) (ls' := [some (.ref a0), some (.int a1), some (.int x6)]) (st' := [.int (-1)]) (h' := h7) rfl ?_
        exact mX_reti rfl
      · refine mX_to 1 (k' := 31) (ls' := [some (.ref a0), some (.int a1), some (.int x6)]) (st' := [.ref a0]) (h' := h7) rfl ?_
        refine mX_ck (k' := 32) (ls' := [some (.ref a0), some (.int a1), some (.int x6)]) (st' := [.ref (gR h7 a0 0)]) (h' := h7) rfl ?_
        refine mX_ck (k' := 33) (ls' := [some (.ref a0), some (.int a1), some (.int x6)]) (st' := [.ref (gR h7 (gR h7 a0 0) 2)]) (h' := h7) rfl ?_
        refine mX_ck (k' := 34) (ls' := [some (.ref a0), some (.int a1), some (.int x6)]) (st' := [.ref (gR h7 (gR h7 (gR h7 a0 0) 2) 2)]) (h' := h7) rfl ?_
        refine mX_to 1 (k' := 35) (ls' := [some (.ref a0), some (.int a1), some (.int x6)]) (st' := [.int a1, .ref (gR h7 (gR h7 (gR h7 a0 0) 2) 2)]) (h' := h7) rfl ?_
        refine mX_ck (k' := 36) (ls' := [some (.ref a0), some (.int a1), some (.int x6)]) (st' := [.int (gI h7 (gR h7 (gR h7 (gR h7 a0 0) 2) 2) (ix a1))]) (h' := h7) rfl ?_
        exact mX_reti rfl
theorem D_X11_stand (d : Nat) (h : MH) (a0 : Nat) (a1 : Int32) : mE mtab (d + 1) 273 [.ref a0, .int a1] h = ck (kd h a0 = 12) (ck ((kd h (gR h a0 0) = 20 ∨ kd h (gR h a0 0) = 24) ∧ ib (1 : Int32) (ln h (gR h a0 0))) (cI (mE mtab d 14 [.int a1, .int 0, .int ((gI h (gR h a0 0) (ix (1 : Int32))) - 1)] h) (fun x2 h1 => (if x2 = 0 then some (.int (-1), h1) else ck (kd h1 a0 = 12) (cI (mE mtab d 270 [.ref a0] h1) (fun x4 h3 => (if x4 = 0 then some (.int (-1), h3) else ck (kd h3 a0 = 12) (ck ((kd h3 (gR h3 a0 30) = 20 ∨ kd h3 (gR h3 a0 30) = 24) ∧ ib a1 (ln h3 (gR h3 a0 30))) ((if (gI h3 (gR h3 a0 30) (ix a1)) < 9 then ck (kd h3 a0 = 12) (ck ((kd h3 (gR h3 a0 30) = 20 ∨ kd h3 (gR h3 a0 30) = 24) ∧ ib a1 (ln h3 (gR h3 a0 30))) (some (.int (gI h3 (gR h3 a0 30) (ix a1)), h3))) else some (.int (-1), h3))))))))))) := by
  refine mE_eq (q := (yX11_stand, cX11_stand, 2, (some .int), KX11_stand)) (C := KX11_stand) (ls := [some (.ref a0), some (.int a1)]) rfl rfl rfl rfl ?_
  refine mX_to 3 (k' := 3) (ls' := [some (.ref a0), some (.int a1)]) (st' := [.ref a0, .int 0, .int a1]) (h' := h) rfl ?_
  refine mX_ck (k' := 4) (ls' := [some (.ref a0), some (.int a1)]) (st' := [.ref (gR h a0 0), .int 0, .int a1]) (h' := h) rfl ?_
  refine mX_to 1 (k' := 5) (ls' := [some (.ref a0), some (.int a1)]) (st' := [.int 1, .ref (gR h a0 0), .int 0, .int a1]) (h' := h) rfl ?_
  refine mX_ck (k' := 6) (ls' := [some (.ref a0), some (.int a1)]) (st' := [.int (gI h (gR h a0 0) (ix (1 : Int32))), .int 0, .int a1]) (h' := h) rfl ?_
  refine mX_to 2 (k' := 8) (ls' := [some (.ref a0), some (.int a1)]) (st' := [.int ((gI h (gR h a0 0) (ix (1 : Int32))) - 1), .int 0, .int a1]) (h' := h) rfl ?_
  refine mX_cI (o := mE mtab d 14 [.int a1, .int 0, .int ((gI h (gR h a0 0) (ix (1 : Int32))) - 1)] h) (k' := 9) (ls' := [some (.ref a0), some (.int a1)]) (st' := []) rfl ?_
  intro x2 h1
  refine mX_br (t := 24) (f := 10) (ls' := [some (.ref a0), some (.int a1)]) (st' := []) (h' := h1) rfl ?_ ?_
  · refine mX_to 1 (k' := 25) (ls' := [some (.ref a0), some (.int a1)]) (st' := [.int (-1)]) (h' := h1) rfl ?_
    exact mX_reti rfl
  · refine mX_to 1 (k' := 11) (ls' := [some (.ref a0), some (.int a1)]) (st' := [.ref a0]) (h' := h1) rfl ?_
    refine mX_ckc (m := mcl (mE mtab d 270 [.ref a0] h1) 1 12 [some (.ref a0), some (.int a1)] []) rfl ?_
    refine mk_cI ?_
    intro x4 h3
    refine mX_br (t := 24) (f := 13) (ls' := [some (.ref a0), some (.int a1)]) (st' := []) (h' := h3) rfl ?_ ?_
    · refine mX_to 1 (k' := 25) (ls' := [some (.ref a0), some (.int a1)]) (st' := [.int (-1)]) (h' := h3) rfl ?_
      exact mX_reti rfl
    · refine mX_to 1 (k' := 14) (ls' := [some (.ref a0), some (.int a1)]) (st' := [.ref a0]) (h' := h3) rfl ?_
      refine mX_ck (k' := 15) (ls' := [some (.ref a0), some (.int a1)]) (st' := [.ref (gR h3 a0 30)]) (h' := h3) rfl ?_
      refine mX_to 1 (k' := 16) (ls' := [some (.ref a0), some (.int a1)]) (st' := [.int a1, .ref (gR h3 a0 30)]) (h' := h3) rfl ?_
      refine mX_ck (k' := 17) (ls' := [some (.ref a0), some (.int a1)]) (st' := [.int (gI h3 (gR h3 a0 30) (ix a1))]) (h' := h3) rfl ?_
      refine mX_to 1 (k' := 18) (ls' := [some (.ref a0), some (.int a1)]) (st' := [.int 9, .int (gI h3 (gR h3 a0 30) (ix a1))]) (h' := h3) rfl ?_
      refine mX_br (t := 19) (f := 24) (ls' := [some (.ref a0), some (.int a1)]) (st' := []) (h' := h3) rfl ?_ ?_
      · refine mX_to 1 (k' := 20) (ls' := [some (.ref a0), some (.int a1)]) (st' := [.ref a0]) (h' := h3) rfl ?_
        refine mX_ck (k' := 21) (ls' := [some (.ref a0), some (.int a1)]) (st' := [.ref (gR h3 a0 30)]) (h' := h3) rfl ?_
        refine mX_to 1 (k' := 22) (ls' := [some (.ref a0), some (.int a1)]) (st' := [.int a1, .ref (gR h3 a0 30)]) (h' := h3) rfl ?_
        refine mX_ck (k' := 23) (ls' := [some (.ref a0), some (.int a1)]) (st' := [.int (gI h3 (gR h3 a0 30) (ix a1))]) (h' := h3) rfl ?_
        refine mX_to 1 (k' := 25) (ls' := [some (.ref a0), some (.int a1)]) (st' := [.int (gI h3 (gR h3 a0 30) (ix a1))]) (h' := h3) rfl ?_
        exact mX_reti rfl
      · refine mX_to 1 (k' := 25) (ls' := [some (.ref a0), some (.int a1)]) (st' := [.int (-1)]) (h' := h3) rfl ?_
        exact mX_reti rfl
theorem D_X10_cat_25 (d : Nat) (h : MH) (l0 : Nat) (l1 : Int32) (l2 : Int32) (l3 : Int32) (l4 : Int32) (l5 : Int32) (l6 : Int32) (o7 : Option Value) : mX (mE mtab d) KX10_cat 25 [some (.ref l0), some (.int l1), some (.int l2), some (.int l3), some (.int l4), some (.int l5), some (.int l6), o7] [] h = (if l6 ≤ 9 then mX (mE mtab d) KX10_cat 30 [some (.ref l0), some (.int l1), some (.int l2), some (.int l3), some (.int l4), some (.int l5), some (.int l6), some (.int 0)] [] h else (if l2 = 0 then some (.int l4, h) else some (.int l5, h))) := by
  refine mX_to 2 (k' := 27) (ls' := [some (.ref l0), some (.int l1), some (.int l2), some (.int l3), some (.int l4), some (.int l5), some (.int l6), o7]) (st' := [.int 9, .int l6]) (h' := h) rfl ?_
  refine mX_br (t := 28) (f := 56) (ls' := [some (.ref l0), some (.int l1), some (.int l2), some (.int l3), some (.int l4), some (.int l5), some (.int l6), o7]) (st' := []) (h' := h) rfl ?_ ?_
  · refine mX_to 2 (k' := 30) (ls' := [some (.ref l0), some (.int l1), some (.int l2), some (.int l3), some (.int l4), some (.int l5), some (.int l6), some (.int 0)]) (st' := []) (h' := h) rfl ?_
    rfl
  · refine mX_to 1 (k' := 57) (ls' := [some (.ref l0), some (.int l1), some (.int l2), some (.int l3), some (.int l4), some (.int l5), some (.int l6), o7]) (st' := [.int l2]) (h' := h) rfl ?_
    refine mX_br (t := 58) (f := 60) (ls' := [some (.ref l0), some (.int l1), some (.int l2), some (.int l3), some (.int l4), some (.int l5), some (.int l6), o7]) (st' := []) (h' := h) rfl ?_ ?_
    · refine mX_to 2 (k' := 61) (ls' := [some (.ref l0), some (.int l1), some (.int l2), some (.int l3), some (.int l4), some (.int l5), some (.int l6), o7]) (st' := [.int l4]) (h' := h) rfl ?_
      exact mX_reti rfl
    · refine mX_to 1 (k' := 61) (ls' := [some (.ref l0), some (.int l1), some (.int l2), some (.int l3), some (.int l4), some (.int l5), some (.int l6), o7]) (st' := [.int l5]) (h' := h) rfl ?_
      exact mX_reti rfl
theorem D_X10_cat_30 (d : Nat) (h : MH) (l0 : Nat) (l1 : Int32) (l2 : Int32) (l3 : Int32) (l4 : Int32) (l5 : Int32) (l6 : Int32) (l7 : Int32) : mX (mE mtab d) KX10_cat 30 [some (.ref l0), some (.int l1), some (.int l2), some (.int l3), some (.int l4), some (.int l5), some (.int l6), some (.int l7)] [] h = (if l7 < 9 then (if (l6 * (l7 - 4)) = l3 then (if l5 = (-1) then mX (mE mtab d) KX10_cat 51 [some (.ref l0), some (.int l1), some (.int l2), some (.int l3), some (.int (l4 + 1)), some (.int l5), some (.int l6), some (.int l7)] [.int ((10 * l6) + l7)] h else mX (mE mtab d) KX10_cat 51 [some (.ref l0), some (.int l1), some (.int l2), some (.int l3), some (.int (l4 + 1)), some (.int l5), some (.int l6), some (.int l7)] [.int l5] h) else mX (mE mtab d) KX10_cat 52 [some (.ref l0), some (.int l1), some (.int l2), some (.int l3), some (.int l4), some (.int l5), some (.int l6), some (.int l7)] [] h) else mX (mE mtab d) KX10_cat 25 [some (.ref l0), some (.int l1), some (.int l2), some (.int l3), some (.int l4), some (.int l5), some (.int (l6 + 1)), some (.int l7)] [] h) := by
  refine mX_to 2 (k' := 32) (ls' := [some (.ref l0), some (.int l1), some (.int l2), some (.int l3), some (.int l4), some (.int l5), some (.int l6), some (.int l7)]) (st' := [.int 9, .int l7]) (h' := h) rfl ?_
  refine mX_br (t := 33) (f := 54) (ls' := [some (.ref l0), some (.int l1), some (.int l2), some (.int l3), some (.int l4), some (.int l5), some (.int l6), some (.int l7)]) (st' := []) (h' := h) rfl ?_ ?_
  · refine mX_to 6 (k' := 39) (ls' := [some (.ref l0), some (.int l1), some (.int l2), some (.int l3), some (.int l4), some (.int l5), some (.int l6), some (.int l7)]) (st' := [.int l3, .int (l6 * (l7 - 4))]) (h' := h) rfl ?_
    refine mX_br (t := 40) (f := 52) (ls' := [some (.ref l0), some (.int l1), some (.int l2), some (.int l3), some (.int l4), some (.int l5), some (.int l6), some (.int l7)]) (st' := []) (h' := h) rfl ?_ ?_
    · refine mX_to 3 (k' := 43) (ls' := [some (.ref l0), some (.int l1), some (.int l2), some (.int l3), some (.int (l4 + 1)), some (.int l5), some (.int l6), some (.int l7)]) (st' := [.int (-1), .int l5]) (h' := h) rfl ?_
      refine mX_br (t := 44) (f := 50) (ls' := [some (.ref l0), some (.int l1), some (.int l2), some (.int l3), some (.int (l4 + 1)), some (.int l5), some (.int l6), some (.int l7)]) (st' := []) (h' := h) rfl ?_ ?_
      · refine mX_to 6 (k' := 51) (ls' := [some (.ref l0), some (.int l1), some (.int l2), some (.int l3), some (.int (l4 + 1)), some (.int l5), some (.int l6), some (.int l7)]) (st' := [.int ((10 * l6) + l7)]) (h' := h) rfl ?_
        rfl
      · refine mX_to 1 (k' := 51) (ls' := [some (.ref l0), some (.int l1), some (.int l2), some (.int l3), some (.int (l4 + 1)), some (.int l5), some (.int l6), some (.int l7)]) (st' := [.int l5]) (h' := h) rfl ?_
        rfl
    · rfl
  · refine mX_to 2 (k' := 25) (ls' := [some (.ref l0), some (.int l1), some (.int l2), some (.int l3), some (.int l4), some (.int l5), some (.int (l6 + 1)), some (.int l7)]) (st' := []) (h' := h) rfl ?_
    rfl
theorem D_X10_cat_51 (d : Nat) (h : MH) (l0 : Nat) (l1 : Int32) (l2 : Int32) (l3 : Int32) (l4 : Int32) (l5 : Int32) (l6 : Int32) (l7 : Int32) (s0 : Int32) : mX (mE mtab d) KX10_cat 51 [some (.ref l0), some (.int l1), some (.int l2), some (.int l3), some (.int l4), some (.int l5), some (.int l6), some (.int l7)] [.int s0] h = mX (mE mtab d) KX10_cat 52 [some (.ref l0), some (.int l1), some (.int l2), some (.int l3), some (.int l4), some (.int s0), some (.int l6), some (.int l7)] [] h := by
  refine mX_to 1 (k' := 52) (ls' := [some (.ref l0), some (.int l1), some (.int l2), some (.int l3), some (.int l4), some (.int s0), some (.int l6), some (.int l7)]) (st' := []) (h' := h) rfl ?_
  rfl
theorem D_X10_cat_52 (d : Nat) (h : MH) (l0 : Nat) (l1 : Int32) (l2 : Int32) (l3 : Int32) (l4 : Int32) (l5 : Int32) (l6 : Int32) (l7 : Int32) : mX (mE mtab d) KX10_cat 52 [some (.ref l0), some (.int l1), some (.int l2), some (.int l3), some (.int l4), some (.int l5), some (.int l6), some (.int l7)] [] h = mX (mE mtab d) KX10_cat 30 [some (.ref l0), some (.int l1), some (.int l2), some (.int l3), some (.int l4), some (.int l5), some (.int l6), some (.int (l7 + 1))] [] h := by
  refine mX_to 2 (k' := 30) (ls' := [some (.ref l0), some (.int l1), some (.int l2), some (.int l3), some (.int l4), some (.int l5), some (.int l6), some (.int (l7 + 1))]) (st' := []) (h' := h) rfl ?_
  rfl
theorem D_X10_cat (d : Nat) (h : MH) (a0 : Nat) (a1 : Int32) (a2 : Int32) : mE mtab (d + 1) 274 [.ref a0, .int a1, .int a2] h = cI (mE mtab d 11 [.int a1, .int (-400), .int 400] h) (fun x2 h1 => (if x2 = 0 then some (.int (-1), h1) else cI (mE mtab d 11 [.int a2, .int 0, .int 1] h1) (fun x4 h3 => (if x4 = 0 then some (.int (-1), h3) else ck (kd h3 a0 = 11) (ck (kd h3 (gR h3 a0 0) = 1) (ck (kd h3 (gR h3 (gR h3 a0 0) 0) = 10) (cI (mE mtab d 139 [.ref (gR h3 (gR h3 a0 0) 0)] h3) (fun x6 h5 => lt_ (a1 - x6) fun v7 => mX (mE mtab d) KX10_cat 25 [some (.ref a0), some (.int a1), some (.int a2), some (.int v7), some (.int 0), some (.int (-1)), some (.int 1), none] [] h5)))))))) := by
  refine mE_eq (q := (yX10_cat, cX10_cat, 8, (some .int), KX10_cat)) (C := KX10_cat) (ls := [some (.ref a0), some (.int a1), some (.int a2), none, none, none, none, none]) rfl rfl rfl rfl ?_
  refine mX_to 3 (k' := 3) (ls' := [some (.ref a0), some (.int a1), some (.int a2), none, none, none, none, none]) (st' := [.int 400, .int (-400), .int a1]) (h' := h) rfl ?_
  refine mX_cI (o := mE mtab d 11 [.int a1, .int (-400), .int 400] h) (k' := 4) (ls' := [some (.ref a0), some (.int a1), some (.int a2), none, none, none, none, none]) (st' := []) rfl ?_
  intro x2 h1
  refine mX_br (t := 10) (f := 5) (ls' := [some (.ref a0), some (.int a1), some (.int a2), none, none, none, none, none]) (st' := []) (h' := h1) rfl ?_ ?_
  · refine mX_to 1 (k' := 11) (ls' := [some (.ref a0), some (.int a1), some (.int a2), none, none, none, none, none]) (st' := [.int (-1)]) (h' := h1) rfl ?_
    exact mX_reti rfl
  · refine mX_to 3 (k' := 8) (ls' := [some (.ref a0), some (.int a1), some (.int a2), none, none, none, none, none]) (st' := [.int 1, .int 0, .int a2]) (h' := h1) rfl ?_
    refine mX_cI (o := mE mtab d 11 [.int a2, .int 0, .int 1] h1) (k' := 9) (ls' := [some (.ref a0), some (.int a1), some (.int a2), none, none, none, none, none]) (st' := []) rfl ?_
    intro x4 h3
    refine mX_br (t := 10) (f := 12) (ls' := [some (.ref a0), some (.int a1), some (.int a2), none, none, none, none, none]) (st' := []) (h' := h3) rfl ?_ ?_
    · refine mX_to 1 (k' := 11) (ls' := [some (.ref a0), some (.int a1), some (.int a2), none, none, none, none, none]) (st' := [.int (-1)]) (h' := h3) rfl ?_
      exact mX_reti rfl
    · refine mX_to 2 (k' := 14) (ls' := [some (.ref a0), some (.int a1), some (.int a2), none, none, none, none, none]) (st' := [.ref a0, .int a1]) (h' := h3) rfl ?_
      refine mX_ck (k' := 15) (ls' := [some (.ref a0), some (.int a1), some (.int a2), none, none, none, none, none]) (st' := [.ref (gR h3 a0 0), .int a1]) (h' := h3) rfl ?_
      refine mX_ck (k' := 16) (ls' := [some (.ref a0), some (.int a1), some (.int a2), none, none, none, none, none]) (st' := [.ref (gR h3 (gR h3 a0 0) 0), .int a1]) (h' := h3) rfl ?_
      refine mX_ckc (m := mcl (mE mtab d 139 [.ref (gR h3 (gR h3 a0 0) 0)] h3) 1 17 [some (.ref a0), some (.int a1), some (.int a2), none, none, none, none, none] [.int a1]) rfl ?_
      refine mk_cI ?_
      intro x6 h5
      refine mX_to 1 (k' := 18) (ls' := [some (.ref a0), some (.int a1), some (.int a2), none, none, none, none, none]) (st' := [.int (a1 - x6)]) (h' := h5) rfl ?_
      refine lt_gen (X := fun v7 : Int32 => mX (mE mtab d) KX10_cat 18 [some (.ref a0), some (.int a1), some (.int a2), none, none, none, none, none] [.int v7] h5) fun v7 => ?_
      refine mX_to 7 (k' := 25) (ls' := [some (.ref a0), some (.int a1), some (.int a2), some (.int v7), some (.int 0), some (.int (-1)), some (.int 1), none]) (st' := []) (h' := h5) rfl ?_
      rfl
theorem D_X11_cat_16 (d : Nat) (h : MH) (l0 : Nat) (l1 : Int32) (l2 : Int32) (l3 : Int32) (l4 : Int32) (o5 : Option Value) : mX (mE mtab d) KX11_cat 16 [some (.ref l0), some (.int l1), some (.int l2), some (.int l3), some (.int l4), o5] [] h = (if l4 < 10 then mX (mE mtab d) KX11_cat 21 [some (.ref l0), some (.int l1), some (.int l2), some (.int l3), some (.int l4), some (.int 0)] [] h else (if l2 = 1 then some (.int (-1), h) else some (.int l3, h))) := by
  refine mX_to 2 (k' := 18) (ls' := [some (.ref l0), some (.int l1), some (.int l2), some (.int l3), some (.int l4), o5]) (st' := [.int 10, .int l4]) (h' := h) rfl ?_
  refine mX_br (t := 19) (f := 49) (ls' := [some (.ref l0), some (.int l1), some (.int l2), some (.int l3), some (.int l4), o5]) (st' := []) (h' := h) rfl ?_ ?_
  · refine mX_to 2 (k' := 21) (ls' := [some (.ref l0), some (.int l1), some (.int l2), some (.int l3), some (.int l4), some (.int 0)]) (st' := []) (h' := h) rfl ?_
    rfl
  · refine mX_to 2 (k' := 51) (ls' := [some (.ref l0), some (.int l1), some (.int l2), some (.int l3), some (.int l4), o5]) (st' := [.int 1, .int l2]) (h' := h) rfl ?_
    refine mX_br (t := 52) (f := 54) (ls' := [some (.ref l0), some (.int l1), some (.int l2), some (.int l3), some (.int l4), o5]) (st' := []) (h' := h) rfl ?_ ?_
    · refine mX_to 2 (k' := 55) (ls' := [some (.ref l0), some (.int l1), some (.int l2), some (.int l3), some (.int l4), o5]) (st' := [.int (-1)]) (h' := h) rfl ?_
      exact mX_reti rfl
    · refine mX_to 1 (k' := 55) (ls' := [some (.ref l0), some (.int l1), some (.int l2), some (.int l3), some (.int l4), o5]) (st' := [.int l3]) (h' := h) rfl ?_
      exact mX_reti rfl
theorem D_X11_cat_21 (d : Nat) (h : MH) (l0 : Nat) (l1 : Int32) (l2 : Int32) (l3 : Int32) (l4 : Int32) (l5 : Int32) : mX (mE mtab d) KX11_cat 21 [some (.ref l0), some (.int l1), some (.int l2), some (.int l3), some (.int l4), some (.int l5)] [] h = (if l5 < 9 then ck (kd h l0 = 12) (cI (mE mtab d 156 [.ref l0] h) (fun x6 h5 => (if (x6 + (l4 * (l5 - 4))) = l1 then (if l2 = 1 then some (.int ((10 * l4) + l5), h5) else mX (mE mtab d) KX11_cat 45 [some (.ref l0), some (.int l1), some (.int l2), some (.int (l3 + 1)), some (.int l4), some (.int l5)] [] h5) else mX (mE mtab d) KX11_cat 45 [some (.ref l0), some (.int l1), some (.int l2), some (.int l3), some (.int l4), some (.int l5)] [] h5))) else mX (mE mtab d) KX11_cat 16 [some (.ref l0), some (.int l1), some (.int l2), some (.int l3), some (.int (l4 + 1)), some (.int l5)] [] h) := by
  refine mX_to 2 (k' := 23) (ls' := [some (.ref l0), some (.int l1), some (.int l2), some (.int l3), some (.int l4), some (.int l5)]) (st' := [.int 9, .int l5]) (h' := h) rfl ?_
  refine mX_br (t := 24) (f := 47) (ls' := [some (.ref l0), some (.int l1), some (.int l2), some (.int l3), some (.int l4), some (.int l5)]) (st' := []) (h' := h) rfl ?_ ?_
  · refine mX_to 1 (k' := 25) (ls' := [some (.ref l0), some (.int l1), some (.int l2), some (.int l3), some (.int l4), some (.int l5)]) (st' := [.ref l0]) (h' := h) rfl ?_
    refine mX_ckc (m := mcl (mE mtab d 156 [.ref l0] h) 1 26 [some (.ref l0), some (.int l1), some (.int l2), some (.int l3), some (.int l4), some (.int l5)] []) rfl ?_
    refine mk_cI ?_
    intro x6 h5
    refine mX_to 7 (k' := 33) (ls' := [some (.ref l0), some (.int l1), some (.int l2), some (.int l3), some (.int l4), some (.int l5)]) (st' := [.int l1, .int (x6 + (l4 * (l5 - 4)))]) (h' := h5) rfl ?_
    refine mX_br (t := 35) (f := 34) (ls' := [some (.ref l0), some (.int l1), some (.int l2), some (.int l3), some (.int l4), some (.int l5)]) (st' := []) (h' := h5) rfl ?_ ?_
    · refine mX_to 2 (k' := 37) (ls' := [some (.ref l0), some (.int l1), some (.int l2), some (.int l3), some (.int l4), some (.int l5)]) (st' := [.int 1, .int l2]) (h' := h5) rfl ?_
      refine mX_br (t := 38) (f := 44) (ls' := [some (.ref l0), some (.int l1), some (.int l2), some (.int l3), some (.int l4), some (.int l5)]) (st' := []) (h' := h5) rfl ?_ ?_
      · refine mX_to 5 (k' := 43) (ls' := [some (.ref l0), some (.int l1), some (.int l2), some (.int l3), some (.int l4), some (.int l5)]) (st' := [.int ((10 * l4) + l5)]) (h' := h5) rfl ?_
        exact mX_reti rfl
      · refine mX_to 1 (k' := 45) (ls' := [some (.ref l0), some (.int l1), some (.int l2), some (.int (l3 + 1)), some (.int l4), some (.int l5)]) (st' := []) (h' := h5) rfl ?_
        rfl
    · refine mX_to 1 (k' := 45) (ls' := [some (.ref l0), some (.int l1), some (.int l2), some (.int l3), some (.int l4), some (.int l5)]) (st' := []) (h' := h5) rfl ?_
      rfl
  · refine mX_to 2 (k' := 16) (ls' := [some (.ref l0), some (.int l1), some (.int l2), some (.int l3), some (.int (l4 + 1)), some (.int l5)]) (st' := []) (h' := h) rfl ?_
    rfl
theorem D_X11_cat_45 (d : Nat) (h : MH) (l0 : Nat) (l1 : Int32) (l2 : Int32) (l3 : Int32) (l4 : Int32) (l5 : Int32) : mX (mE mtab d) KX11_cat 45 [some (.ref l0), some (.int l1), some (.int l2), some (.int l3), some (.int l4), some (.int l5)] [] h = mX (mE mtab d) KX11_cat 21 [some (.ref l0), some (.int l1), some (.int l2), some (.int l3), some (.int l4), some (.int (l5 + 1))] [] h := by
  refine mX_to 2 (k' := 21) (ls' := [some (.ref l0), some (.int l1), some (.int l2), some (.int l3), some (.int l4), some (.int (l5 + 1))]) (st' := []) (h' := h) rfl ?_
  rfl
theorem D_X11_cat (d : Nat) (h : MH) (a0 : Nat) (a1 : Int32) (a2 : Int32) : mE mtab (d + 1) 275 [.ref a0, .int a1, .int a2] h = cI (mE mtab d 14 [.int a1, .int (-400), .int 400] h) (fun x2 h1 => (if x2 = 0 then some (.int (-1), h1) else cI (mE mtab d 14 [.int a2, .int 0, .int 1] h1) (fun x4 h3 => (if x4 = 0 then some (.int (-1), h3) else mX (mE mtab d) KX11_cat 16 [some (.ref a0), some (.int a1), some (.int a2), some (.int 0), some (.int 1), none] [] h3)))) := by
  refine mE_eq (q := (yX11_cat, cX11_cat, 6, (some .int), KX11_cat)) (C := KX11_cat) (ls := [some (.ref a0), some (.int a1), some (.int a2), none, none, none]) rfl rfl rfl rfl ?_
  refine mX_to 3 (k' := 3) (ls' := [some (.ref a0), some (.int a1), some (.int a2), none, none, none]) (st' := [.int 400, .int (-400), .int a1]) (h' := h) rfl ?_
  refine mX_cI (o := mE mtab d 14 [.int a1, .int (-400), .int 400] h) (k' := 4) (ls' := [some (.ref a0), some (.int a1), some (.int a2), none, none, none]) (st' := []) rfl ?_
  intro x2 h1
  refine mX_br (t := 10) (f := 5) (ls' := [some (.ref a0), some (.int a1), some (.int a2), none, none, none]) (st' := []) (h' := h1) rfl ?_ ?_
  · refine mX_to 1 (k' := 11) (ls' := [some (.ref a0), some (.int a1), some (.int a2), none, none, none]) (st' := [.int (-1)]) (h' := h1) rfl ?_
    exact mX_reti rfl
  · refine mX_to 3 (k' := 8) (ls' := [some (.ref a0), some (.int a1), some (.int a2), none, none, none]) (st' := [.int 1, .int 0, .int a2]) (h' := h1) rfl ?_
    refine mX_cI (o := mE mtab d 14 [.int a2, .int 0, .int 1] h1) (k' := 9) (ls' := [some (.ref a0), some (.int a1), some (.int a2), none, none, none]) (st' := []) rfl ?_
    intro x4 h3
    refine mX_br (t := 10) (f := 12) (ls' := [some (.ref a0), some (.int a1), some (.int a2), none, none, none]) (st' := []) (h' := h3) rfl ?_ ?_
    · refine mX_to 1 (k' := 11) (ls' := [some (.ref a0), some (.int a1), some (.int a2), none, none, none]) (st' := [.int (-1)]) (h' := h3) rfl ?_
      exact mX_reti rfl
    · refine mX_to 4 (k' := 16) (ls' := [some (.ref a0), some (.int a1), some (.int a2), some (.int 0), some (.int 1), none]) (st' := []) (h' := h3) rfl ?_
      rfl
theorem D_X1_canLeave (d : Nat) (h : MH) (a0 : Nat) (a1 : Int32) (a2 : Int32) : mE mtab (d + 1) 276 [.ref a0, .int a1, .int a2] h = cI (mE mtab d 257 [.int a1, .int a2] h) (fun x2 h1 => (if x2 = 0 then some (.int 0, h1) else ck (kd h1 a0 = 2) (ck ((kd h1 (gR h1 a0 0) = 20 ∨ kd h1 (gR h1 a0 0) = 24) ∧ ib (a1 - (1 <<< (a2 &&& 31))) (ln h1 (gR h1 a0 0))) (ck (kd h1 a0 = 2) ((if (jabs (gI h1 (gR h1 a0 0) (ix (a1 - (1 <<< (a2 &&& 31)))))) ≤ (gI h1 a0 3) then some (.int 1, h1) else some (.int 0, h1))))))) := by
  refine mE_eq (q := (yX1_canLeave, cX1_canLeave, 3, (some .boolean), KX1_canLeave)) (C := KX1_canLeave) (ls := [some (.ref a0), some (.int a1), some (.int a2)]) rfl rfl rfl rfl ?_
  refine mX_to 2 (k' := 2) (ls' := [some (.ref a0), some (.int a1), some (.int a2)]) (st' := [.int a2, .int a1]) (h' := h) rfl ?_
  refine mX_cI (o := mE mtab d 257 [.int a1, .int a2] h) (k' := 3) (ls' := [some (.ref a0), some (.int a1), some (.int a2)]) (st' := []) rfl ?_
  intro x2 h1
  refine mX_br (t := 18) (f := 4) (ls' := [some (.ref a0), some (.int a1), some (.int a2)]) (st' := []) (h' := h1) rfl ?_ ?_
  · refine mX_to 1 (k' := 19) (ls' := [some (.ref a0), some (.int a1), some (.int a2)]) (st' := [.int 0]) (h' := h1) rfl ?_
    exact mX_retb (by decide) rfl
  · refine mX_to 1 (k' := 5) (ls' := [some (.ref a0), some (.int a1), some (.int a2)]) (st' := [.ref a0]) (h' := h1) rfl ?_
    refine mX_ck (k' := 6) (ls' := [some (.ref a0), some (.int a1), some (.int a2)]) (st' := [.ref (gR h1 a0 0)]) (h' := h1) rfl ?_
    refine mX_to 5 (k' := 11) (ls' := [some (.ref a0), some (.int a1), some (.int a2)]) (st' := [.int (a1 - (1 <<< (a2 &&& 31))), .ref (gR h1 a0 0)]) (h' := h1) rfl ?_
    refine mX_ck (k' := 12) (ls' := [some (.ref a0), some (.int a1), some (.int a2)]) (st' := [.int (gI h1 (gR h1 a0 0) (ix (a1 - (1 <<< (a2 &&& 31)))))]) (h' := h1) rfl ?_
    refine mX_to 2 (k' := 14) (ls' := [some (.ref a0), some (.int a1), some (.int a2)]) (st' := [.ref a0, .int (jabs (gI h1 (gR h1 a0 0) (ix (a1 - (1 <<< (a2 &&& 31))))))]) (h' := h1) rfl ?_
    refine mX_ck (k' := 15) (ls' := [some (.ref a0), some (.int a1), some (.int a2)]) (st' := [.int (gI h1 a0 3), .int (jabs (gI h1 (gR h1 a0 0) (ix (a1 - (1 <<< (a2 &&& 31))))))]) (h' := h1) rfl ?_
    refine mX_br (t := 16) (f := 18) (ls' := [some (.ref a0), some (.int a1), some (.int a2)]) (st' := []) (h' := h1) rfl ?_ ?_
    · refine mX_to 2 (k' := 19) (ls' := [some (.ref a0), some (.int a1), some (.int a2)]) (st' := [.int 1]) (h' := h1) rfl ?_
      exact mX_retb (by decide) rfl
    · refine mX_to 1 (k' := 19) (ls' := [some (.ref a0), some (.int a1), some (.int a2)]) (st' := [.int 0]) (h' := h1) rfl ?_
      exact mX_retb (by decide) rfl
theorem D_X1_judge_8 (d : Nat) (h : MH) (l0 : Nat) (l1 : Int32) (s0 : Int64) (s1 : Int32) (s2 : Nat) : mX (mE mtab d) KX1_judge 8 [some (.ref l0), some (.int l1), none, none] [.long s0, .int s1, .ref s2] h = ck (kd h s2 = 21 ∧ ib s1 (ln h s2)) (lt_ (sL h s2 (ix s1) s0) fun h1 => ck (kd h1 l0 = 2) (ck (kd h1 (gR h1 l0 2) = 22 ∧ ib l1 (ln h1 (gR h1 l0 2)) ∧ ((0 : Int32) = 0 ∨ (0 : Int32) = 1)) (lt_ (sI h1 (gR h1 l0 2) (ix l1) 0) fun h2 => mX (mE mtab d) KX1_judge 16 [some (.ref l0), some (.int l1), some (.int 0), none] [] h2))) := by
  refine mX_ck (k' := 9) (ls' := [some (.ref l0), some (.int l1), none, none]) (st' := []) (h' := (sL h s2 (ix s1) s0)) rfl ?_
  refine lt_gen (X := fun h1 : MH => mX (mE mtab d) KX1_judge 9 [some (.ref l0), some (.int l1), none, none] [] h1) fun h1 => ?_
  refine mX_to 1 (k' := 10) (ls' := [some (.ref l0), some (.int l1), none, none]) (st' := [.ref l0]) (h' := h1) rfl ?_
  refine mX_ck (k' := 11) (ls' := [some (.ref l0), some (.int l1), none, none]) (st' := [.ref (gR h1 l0 2)]) (h' := h1) rfl ?_
  refine mX_to 2 (k' := 13) (ls' := [some (.ref l0), some (.int l1), none, none]) (st' := [.int 0, .int l1, .ref (gR h1 l0 2)]) (h' := h1) rfl ?_
  refine mX_ck (k' := 14) (ls' := [some (.ref l0), some (.int l1), none, none]) (st' := []) (h' := (sI h1 (gR h1 l0 2) (ix l1) 0)) rfl ?_
  refine lt_gen (X := fun h2 : MH => mX (mE mtab d) KX1_judge 14 [some (.ref l0), some (.int l1), none, none] [] h2) fun h2 => ?_
  refine mX_to 2 (k' := 16) (ls' := [some (.ref l0), some (.int l1), some (.int 0), none]) (st' := []) (h' := h2) rfl ?_
  rfl
theorem D_X1_judge_16 (d : Nat) (h : MH) (l0 : Nat) (l1 : Int32) (l2 : Int32) (o3 : Option Value) : mX (mE mtab d) KX1_judge 16 [some (.ref l0), some (.int l1), some (.int l2), o3] [] h = (if l2 < 4 then ck (kd h l0 = 2) (cI (mE mtab d 276 [.ref l0, .int l1, .int l2] h) (fun x4 h3 => (if x4 = 0 then mX (mE mtab d) KX1_judge 56 [some (.ref l0), some (.int l1), some (.int l2), o3] [] h3 else lt_ (l1 - (1 <<< (l2 &&& 31))) fun v5 => ck (kd h3 l0 = 2) (ck (kd h3 (gR h3 l0 1) = 21 ∧ ib l1 (ln h3 (gR h3 l0 1))) (ck (kd h3 l0 = 2) (ck (kd h3 (gR h3 l0 1) = 21 ∧ ib v5 (ln h3 (gR h3 l0 1))) (ck (kd h3 (gR h3 l0 1) = 21 ∧ ib l1 (ln h3 (gR h3 l0 1))) (lt_ (sL h3 (gR h3 l0 1) (ix l1) ((gL h3 (gR h3 l0 1) (ix l1)) + (gL h3 (gR h3 l0 1) (ix v5)))) fun h6 => ck (kd h6 l0 = 2) (ck ((kd h6 (gR h6 l0 2) = 22 ∨ kd h6 (gR h6 l0 2) = 26) ∧ ib l1 (ln h6 (gR h6 l0 2))) (ck (kd h6 l0 = 2) (ck ((kd h6 (gR h6 l0 2) = 22 ∨ kd h6 (gR h6 l0 2) = 26) ∧ ib v5 (ln h6 (gR h6 l0 2))) ((if (gI h6 (gR h6 l0 2) (ix v5)) = 0 then mX (mE mtab d) KX1_judge 54 [some (.ref l0), some (.int l1), some (.int l2), some (.int v5)] [.int 1, .int (gI h6 (gR h6 l0 2) (ix l1)), .int l1, .ref (gR h6 l0 2)] h6 else mX (mE mtab d) KX1_judge 54 [some (.ref l0), some (.int l1), some (.int l2), some (.int v5)] [.int 0, .int (gI h6 (gR h6 l0 2) (ix l1)), .int l1, .ref (gR h6 l0 2)] h6))))))))))))) else some (.int 0, h)) := by
  refine mX_to 2 (k' := 18) (ls' := [some (.ref l0), some (.int l1), some (.int l2), o3]) (st' := [.int 4, .int l2]) (h' := h) rfl ?_
  refine mX_br (t := 19) (f := 58) (ls' := [some (.ref l0), some (.int l1), some (.int l2), o3]) (st' := []) (h' := h) rfl ?_ ?_
  · refine mX_to 3 (k' := 22) (ls' := [some (.ref l0), some (.int l1), some (.int l2), o3]) (st' := [.int l2, .int l1, .ref l0]) (h' := h) rfl ?_
    refine mX_ckc (m := mcl (mE mtab d 276 [.ref l0, .int l1, .int l2] h) 1 23 [some (.ref l0), some (.int l1), some (.int l2), o3] []) rfl ?_
    refine mk_cI ?_
    intro x4 h3
    refine mX_br (t := 56) (f := 24) (ls' := [some (.ref l0), some (.int l1), some (.int l2), o3]) (st' := []) (h' := h3) rfl ?_ ?_
    · rfl
    · refine mX_to 5 (k' := 29) (ls' := [some (.ref l0), some (.int l1), some (.int l2), o3]) (st' := [.int (l1 - (1 <<< (l2 &&& 31)))]) (h' := h3) rfl ?_
      refine lt_gen (X := fun v5 : Int32 => mX (mE mtab d) KX1_judge 29 [some (.ref l0), some (.int l1), some (.int l2), o3] [.int v5] h3) fun v5 => ?_
      refine mX_to 2 (k' := 31) (ls' := [some (.ref l0), some (.int l1), some (.int l2), some (.int v5)]) (st' := [.ref l0]) (h' := h3) rfl ?_
      refine mX_ck (k' := 32) (ls' := [some (.ref l0), some (.int l1), some (.int l2), some (.int v5)]) (st' := [.ref (gR h3 l0 1)]) (h' := h3) rfl ?_
      refine mX_to 2 (k' := 34) (ls' := [some (.ref l0), some (.int l1), some (.int l2), some (.int v5)]) (st' := [.int l1, .ref (gR h3 l0 1), .int l1, .ref (gR h3 l0 1)]) (h' := h3) rfl ?_
      refine mX_ck (k' := 35) (ls' := [some (.ref l0), some (.int l1), some (.int l2), some (.int v5)]) (st' := [.long (gL h3 (gR h3 l0 1) (ix l1)), .int l1, .ref (gR h3 l0 1)]) (h' := h3) rfl ?_
      refine mX_to 1 (k' := 36) (ls' := [some (.ref l0), some (.int l1), some (.int l2), some (.int v5)]) (st' := [.ref l0, .long (gL h3 (gR h3 l0 1) (ix l1)), .int l1, .ref (gR h3 l0 1)]) (h' := h3) rfl ?_
      refine mX_ck (k' := 37) (ls' := [some (.ref l0), some (.int l1), some (.int l2), some (.int v5)]) (st' := [.ref (gR h3 l0 1), .long (gL h3 (gR h3 l0 1) (ix l1)), .int l1, .ref (gR h3 l0 1)]) (h' := h3) rfl ?_
      refine mX_to 1 (k' := 38) (ls' := [some (.ref l0), some (.int l1), some (.int l2), some (.int v5)]) (st' := [.int v5, .ref (gR h3 l0 1), .long (gL h3 (gR h3 l0 1) (ix l1)), .int l1, .ref (gR h3 l0 1)]) (h' := h3) rfl ?_
      refine mX_ck (k' := 39) (ls' := [some (.ref l0), some (.int l1), some (.int l2), some (.int v5)]) (st' := [.long (gL h3 (gR h3 l0 1) (ix v5)), .long (gL h3 (gR h3 l0 1) (ix l1)), .int l1, .ref (gR h3 l0 1)]) (h' := h3) rfl ?_
      refine mX_to 1 (k' := 40) (ls' := [some (.ref l0), some (.int l1), some (.int l2), some (.int v5)]) (st' := [.long ((gL h3 (gR h3 l0 1) (ix l1)) + (gL h3 (gR h3 l0 1) (ix v5))), .int l1, .ref (gR h3 l0 1)]) (h' := h3) rfl ?_
      refine mX_ck (k' := 41) (ls' := [some (.ref l0), some (.int l1), some (.int l2), some (.int v5)]) (st' := []) (h' := (sL h3 (gR h3 l0 1) (ix l1) ((gL h3 (gR h3 l0 1) (ix l1)) + (gL h3 (gR h3 l0 1) (ix v5))))) rfl ?_
      refine lt_gen (X := fun h6 : MH => mX (mE mtab d) KX1_judge 41 [some (.ref l0), some (.int l1), some (.int l2), some (.int v5)] [] h6) fun h6 => ?_
      refine mX_to 1 (k' := 42) (ls' := [some (.ref l0), some (.int l1), some (.int l2), some (.int v5)]) (st' := [.ref l0]) (h' := h6) rfl ?_
      refine mX_ck (k' := 43) (ls' := [some (.ref l0), some (.int l1), some (.int l2), some (.int v5)]) (st' := [.ref (gR h6 l0 2)]) (h' := h6) rfl ?_
      refine mX_to 2 (k' := 45) (ls' := [some (.ref l0), some (.int l1), some (.int l2), some (.int v5)]) (st' := [.int l1, .ref (gR h6 l0 2), .int l1, .ref (gR h6 l0 2)]) (h' := h6) rfl ?_
      refine mX_ck (k' := 46) (ls' := [some (.ref l0), some (.int l1), some (.int l2), some (.int v5)]) (st' := [.int (gI h6 (gR h6 l0 2) (ix l1)), .int l1, .ref (gR h6 l0 2)]) (h' := h6) rfl ?_
      refine mX_to 1 (k' := 47) (ls' := [some (.ref l0), some (.int l1), some (.int l2), some (.int v5)]) (st' := [.ref l0, .int (gI h6 (gR h6 l0 2) (ix l1)), .int l1, .ref (gR h6 l0 2)]) (h' := h6) rfl ?_
      refine mX_ck (k' := 48) (ls' := [some (.ref l0), some (.int l1), some (.int l2), some (.int v5)]) (st' := [.ref (gR h6 l0 2), .int (gI h6 (gR h6 l0 2) (ix l1)), .int l1, .ref (gR h6 l0 2)]) (h' := h6) rfl ?_
      refine mX_to 1 (k' := 49) (ls' := [some (.ref l0), some (.int l1), some (.int l2), some (.int v5)]) (st' := [.int v5, .ref (gR h6 l0 2), .int (gI h6 (gR h6 l0 2) (ix l1)), .int l1, .ref (gR h6 l0 2)]) (h' := h6) rfl ?_
      refine mX_ck (k' := 50) (ls' := [some (.ref l0), some (.int l1), some (.int l2), some (.int v5)]) (st' := [.int (gI h6 (gR h6 l0 2) (ix v5)), .int (gI h6 (gR h6 l0 2) (ix l1)), .int l1, .ref (gR h6 l0 2)]) (h' := h6) rfl ?_
      refine mX_br (t := 51) (f := 53) (ls' := [some (.ref l0), some (.int l1), some (.int l2), some (.int v5)]) (st' := [.int (gI h6 (gR h6 l0 2) (ix l1)), .int l1, .ref (gR h6 l0 2)]) (h' := h6) rfl ?_ ?_
      · refine mX_to 2 (k' := 54) (ls' := [some (.ref l0), some (.int l1), some (.int l2), some (.int v5)]) (st' := [.int 1, .int (gI h6 (gR h6 l0 2) (ix l1)), .int l1, .ref (gR h6 l0 2)]) (h' := h6) rfl ?_
        rfl
      · refine mX_to 1 (k' := 54) (ls' := [some (.ref l0), some (.int l1), some (.int l2), some (.int v5)]) (st' := [.int 0, .int (gI h6 (gR h6 l0 2) (ix l1)), .int l1, .ref (gR h6 l0 2)]) (h' := h6) rfl ?_
        rfl
  · exact mX_ret rfl
theorem D_X1_judge_56 (d : Nat) (h : MH) (l0 : Nat) (l1 : Int32) (l2 : Int32) (o3 : Option Value) : mX (mE mtab d) KX1_judge 56 [some (.ref l0), some (.int l1), some (.int l2), o3] [] h = mX (mE mtab d) KX1_judge 16 [some (.ref l0), some (.int l1), some (.int (l2 + 1)), o3] [] h := by
  refine mX_to 2 (k' := 16) (ls' := [some (.ref l0), some (.int l1), some (.int (l2 + 1)), o3]) (st' := []) (h' := h) rfl ?_
  rfl
theorem D_X1_judge_54 (d : Nat) (h : MH) (l0 : Nat) (l1 : Int32) (l2 : Int32) (l3 : Int32) (s0 : Int32) (s1 : Int32) (s2 : Int32) (s3 : Nat) : mX (mE mtab d) KX1_judge 54 [some (.ref l0), some (.int l1), some (.int l2), some (.int l3)] [.int s0, .int s1, .int s2, .ref s3] h = ck (kd h s3 = 22 ∧ ib s2 (ln h s3) ∧ ((s1 ||| s0) = 0 ∨ (s1 ||| s0) = 1)) (lt_ (sI h s3 (ix s2) (s1 ||| s0)) fun h8 => mX (mE mtab d) KX1_judge 56 [some (.ref l0), some (.int l1), some (.int l2), some (.int l3)] [] h8) := by
  refine mX_to 1 (k' := 55) (ls' := [some (.ref l0), some (.int l1), some (.int l2), some (.int l3)]) (st' := [.int (s1 ||| s0), .int s2, .ref s3]) (h' := h) rfl ?_
  refine mX_ck (k' := 56) (ls' := [some (.ref l0), some (.int l1), some (.int l2), some (.int l3)]) (st' := []) (h' := (sI h s3 (ix s2) (s1 ||| s0))) rfl ?_
  refine lt_gen (X := fun h8 : MH => mX (mE mtab d) KX1_judge 56 [some (.ref l0), some (.int l1), some (.int l2), some (.int l3)] [] h8) fun h8 => ?_
  rfl
theorem D_X1_judge (d : Nat) (h : MH) (a0 : Nat) (a1 : Int32) : mE mtab (d + 1) 277 [.ref a0, .int a1] h = ck (kd h a0 = 2) ((if a1 = 0 then mX (mE mtab d) KX1_judge 8 [some (.ref a0), some (.int a1), none, none] [.long 1, .int a1, .ref (gR h a0 1)] h else mX (mE mtab d) KX1_judge 8 [some (.ref a0), some (.int a1), none, none] [.long 0, .int a1, .ref (gR h a0 1)] h)) := by
  refine mE_eq (q := (yX1_judge, cX1_judge, 4, none, KX1_judge)) (C := KX1_judge) (ls := [some (.ref a0), some (.int a1), none, none]) rfl rfl rfl rfl ?_
  refine mX_to 1 (k' := 1) (ls' := [some (.ref a0), some (.int a1), none, none]) (st' := [.ref a0]) (h' := h) rfl ?_
  refine mX_ck (k' := 2) (ls' := [some (.ref a0), some (.int a1), none, none]) (st' := [.ref (gR h a0 1)]) (h' := h) rfl ?_
  refine mX_to 2 (k' := 4) (ls' := [some (.ref a0), some (.int a1), none, none]) (st' := [.int a1, .int a1, .ref (gR h a0 1)]) (h' := h) rfl ?_
  refine mX_br (t := 5) (f := 7) (ls' := [some (.ref a0), some (.int a1), none, none]) (st' := [.int a1, .ref (gR h a0 1)]) (h' := h) rfl ?_ ?_
  · refine mX_to 2 (k' := 8) (ls' := [some (.ref a0), some (.int a1), none, none]) (st' := [.long 1, .int a1, .ref (gR h a0 1)]) (h' := h) rfl ?_
    rfl
  · refine mX_to 1 (k' := 8) (ls' := [some (.ref a0), some (.int a1), none, none]) (st' := [.long 0, .int a1, .ref (gR h a0 1)]) (h' := h) rfl ?_
    rfl
theorem D_X1_weigh_17 (d : Nat) (h : MH) (l0 : Nat) (l1 : Nat) (l2 : Int32) (l3 : Int32) (o4 : Option Value) : mX (mE mtab d) KX1_weigh 17 [some (.ref l0), some (.ref l1), some (.int l2), some (.int l3), o4] [] h = ck (kd h l0 = 2) ((if l3 ≤ (gI h l0 4) then ck (kd h l0 = 2) (ck (kd h (gR h l0 0) = 20 ∧ ib l3 (ln h (gR h l0 0))) (lt_ (sI h (gR h l0 0) (ix l3) l2) fun h7 => mX (mE mtab d) KX1_weigh 28 [some (.ref l0), some (.ref l1), some (.int l2), some (.int l3), some (.int 0)] [] h7)) else mX (mE mtab d) KX1_weigh 60 [some (.ref l0), some (.ref l1), some (.int l2), some (.int 0), o4] [] h)) := by
  refine mX_to 2 (k' := 19) (ls' := [some (.ref l0), some (.ref l1), some (.int l2), some (.int l3), o4]) (st' := [.ref l0, .int l3]) (h' := h) rfl ?_
  refine mX_ck (k' := 20) (ls' := [some (.ref l0), some (.ref l1), some (.int l2), some (.int l3), o4]) (st' := [.int (gI h l0 4), .int l3]) (h' := h) rfl ?_
  refine mX_br (t := 21) (f := 58) (ls' := [some (.ref l0), some (.ref l1), some (.int l2), some (.int l3), o4]) (st' := []) (h' := h) rfl ?_ ?_
  · refine mX_to 1 (k' := 22) (ls' := [some (.ref l0), some (.ref l1), some (.int l2), some (.int l3), o4]) (st' := [.ref l0]) (h' := h) rfl ?_
    refine mX_ck (k' := 23) (ls' := [some (.ref l0), some (.ref l1), some (.int l2), some (.int l3), o4]) (st' := [.ref (gR h l0 0)]) (h' := h) rfl ?_
    refine mX_to 2 (k' := 25) (ls' := [some (.ref l0), some (.ref l1), some (.int l2), some (.int l3), o4]) (st' := [.int l2, .int l3, .ref (gR h l0 0)]) (h' := h) rfl ?_
    refine mX_ck (k' := 26) (ls' := [some (.ref l0), some (.ref l1), some (.int l2), some (.int l3), o4]) (st' := []) (h' := (sI h (gR h l0 0) (ix l3) l2)) rfl ?_
    refine lt_gen (X := fun h7 : MH => mX (mE mtab d) KX1_weigh 26 [some (.ref l0), some (.ref l1), some (.int l2), some (.int l3), o4] [] h7) fun h7 => ?_
    refine mX_to 2 (k' := 28) (ls' := [some (.ref l0), some (.ref l1), some (.int l2), some (.int l3), some (.int 0)]) (st' := []) (h' := h7) rfl ?_
    rfl
  · refine mX_to 2 (k' := 60) (ls' := [some (.ref l0), some (.ref l1), some (.int l2), some (.int 0), o4]) (st' := []) (h' := h) rfl ?_
    rfl
theorem D_X1_weigh_28 (d : Nat) (h : MH) (l0 : Nat) (l1 : Nat) (l2 : Int32) (l3 : Int32) (l4 : Int32) : mX (mE mtab d) KX1_weigh 28 [some (.ref l0), some (.ref l1), some (.int l2), some (.int l3), some (.int l4)] [] h = ck (kd h l1 = 10) ((if l4 < (gI h l1 0) then cI (mE mtab d 257 [.int l3, .int l4] h) (fun x9 h8 => (if x9 = 0 then ck (kd h8 l0 = 2) (ck ((kd h8 (gR h8 l0 0) = 20 ∨ kd h8 (gR h8 l0 0) = 24) ∧ ib l3 (ln h8 (gR h8 l0 0))) (ck (kd h8 l1 = 10) (ck ((kd h8 (gR h8 l1 1) = 20 ∨ kd h8 (gR h8 l1 1) = 24) ∧ ib l4 (ln h8 (gR h8 l1 1))) (ck (kd h8 l1 = 10) (ck ((kd h8 (gR h8 l1 2) = 20 ∨ kd h8 (gR h8 l1 2) = 24) ∧ ib l4 (ln h8 (gR h8 l1 2))) (ck (kd h8 (gR h8 l0 0) = 20 ∧ ib l3 (ln h8 (gR h8 l0 0))) (lt_ (sI h8 (gR h8 l0 0) (ix l3) ((gI h8 (gR h8 l0 0) (ix l3)) - ((gI h8 (gR h8 l1 1) (ix l4)) * ((gI h8 (gR h8 l1 2) (ix l4)) - 4)))) fun h10 => mX (mE mtab d) KX1_weigh 54 [some (.ref l0), some (.ref l1), some (.int l2), some (.int l3), some (.int l4)] [] h10))))))) else mX (mE mtab d) KX1_weigh 54 [some (.ref l0), some (.ref l1), some (.int l2), some (.int l3), some (.int l4)] [] h8)) else mX (mE mtab d) KX1_weigh 17 [some (.ref l0), some (.ref l1), some (.int l2), some (.int (l3 + 1)), some (.int l4)] [] h)) := by
  refine mX_to 2 (k' := 30) (ls' := [some (.ref l0), some (.ref l1), some (.int l2), some (.int l3), some (.int l4)]) (st' := [.ref l1, .int l4]) (h' := h) rfl ?_
  refine mX_ck (k' := 31) (ls' := [some (.ref l0), some (.ref l1), some (.int l2), some (.int l3), some (.int l4)]) (st' := [.int (gI h l1 0), .int l4]) (h' := h) rfl ?_
  refine mX_br (t := 32) (f := 56) (ls' := [some (.ref l0), some (.ref l1), some (.int l2), some (.int l3), some (.int l4)]) (st' := []) (h' := h) rfl ?_ ?_
  · refine mX_to 2 (k' := 34) (ls' := [some (.ref l0), some (.ref l1), some (.int l2), some (.int l3), some (.int l4)]) (st' := [.int l4, .int l3]) (h' := h) rfl ?_
    refine mX_cI (o := mE mtab d 257 [.int l3, .int l4] h) (k' := 35) (ls' := [some (.ref l0), some (.ref l1), some (.int l2), some (.int l3), some (.int l4)]) (st' := []) rfl ?_
    intro x9 h8
    refine mX_br (t := 36) (f := 54) (ls' := [some (.ref l0), some (.ref l1), some (.int l2), some (.int l3), some (.int l4)]) (st' := []) (h' := h8) rfl ?_ ?_
    · refine mX_to 1 (k' := 37) (ls' := [some (.ref l0), some (.ref l1), some (.int l2), some (.int l3), some (.int l4)]) (st' := [.ref l0]) (h' := h8) rfl ?_
      refine mX_ck (k' := 38) (ls' := [some (.ref l0), some (.ref l1), some (.int l2), some (.int l3), some (.int l4)]) (st' := [.ref (gR h8 l0 0)]) (h' := h8) rfl ?_
      refine mX_to 2 (k' := 40) (ls' := [some (.ref l0), some (.ref l1), some (.int l2), some (.int l3), some (.int l4)]) (st' := [.int l3, .ref (gR h8 l0 0), .int l3, .ref (gR h8 l0 0)]) (h' := h8) rfl ?_
      refine mX_ck (k' := 41) (ls' := [some (.ref l0), some (.ref l1), some (.int l2), some (.int l3), some (.int l4)]) (st' := [.int (gI h8 (gR h8 l0 0) (ix l3)), .int l3, .ref (gR h8 l0 0)]) (h' := h8) rfl ?_
      refine mX_to 1 (k' := 42) (ls' := [some (.ref l0), some (.ref l1), some (.int l2), some (.int l3), some (.int l4)]) (st' := [.ref l1, .int (gI h8 (gR h8 l0 0) (ix l3)), .int l3, .ref (gR h8 l0 0)]) (h' := h8) rfl ?_
      refine mX_ck (k' := 43) (ls' := [some (.ref l0), some (.ref l1), some (.int l2), some (.int l3), some (.int l4)]) (st' := [.ref (gR h8 l1 1), .int (gI h8 (gR h8 l0 0) (ix l3)), .int l3, .ref (gR h8 l0 0)]) (h' := h8) rfl ?_
      refine mX_to 1 (k' := 44) (ls' := [some (.ref l0), some (.ref l1), some (.int l2), some (.int l3), some (.int l4)]) (st' := [.int l4, .ref (gR h8 l1 1), .int (gI h8 (gR h8 l0 0) (ix l3)), .int l3, .ref (gR h8 l0 0)]) (h' := h8) rfl ?_
      refine mX_ck (k' := 45) (ls' := [some (.ref l0), some (.ref l1), some (.int l2), some (.int l3), some (.int l4)]) (st' := [.int (gI h8 (gR h8 l1 1) (ix l4)), .int (gI h8 (gR h8 l0 0) (ix l3)), .int l3, .ref (gR h8 l0 0)]) (h' := h8) rfl ?_
      refine mX_to 1 (k' := 46) (ls' := [some (.ref l0), some (.ref l1), some (.int l2), some (.int l3), some (.int l4)]) (st' := [.ref l1, .int (gI h8 (gR h8 l1 1) (ix l4)), .int (gI h8 (gR h8 l0 0) (ix l3)), .int l3, .ref (gR h8 l0 0)]) (h' := h8) rfl ?_
      refine mX_ck (k' := 47) (ls' := [some (.ref l0), some (.ref l1), some (.int l2), some (.int l3), some (.int l4)]) (st' := [.ref (gR h8 l1 2), .int (gI h8 (gR h8 l1 1) (ix l4)), .int (gI h8 (gR h8 l0 0) (ix l3)), .int l3, .ref (gR h8 l0 0)]) (h' := h8) rfl ?_
      refine mX_to 1 (k' := 48) (ls' := [some (.ref l0), some (.ref l1), some (.int l2), some (.int l3), some (.int l4)]) (st' := [.int l4, .ref (gR h8 l1 2), .int (gI h8 (gR h8 l1 1) (ix l4)), .int (gI h8 (gR h8 l0 0) (ix l3)), .int l3, .ref (gR h8 l0 0)]) (h' := h8) rfl ?_
      refine mX_ck (k' := 49) (ls' := [some (.ref l0), some (.ref l1), some (.int l2), some (.int l3), some (.int l4)]) (st' := [.int (gI h8 (gR h8 l1 2) (ix l4)), .int (gI h8 (gR h8 l1 1) (ix l4)), .int (gI h8 (gR h8 l0 0) (ix l3)), .int l3, .ref (gR h8 l0 0)]) (h' := h8) rfl ?_
      refine mX_to 4 (k' := 53) (ls' := [some (.ref l0), some (.ref l1), some (.int l2), some (.int l3), some (.int l4)]) (st' := [.int ((gI h8 (gR h8 l0 0) (ix l3)) - ((gI h8 (gR h8 l1 1) (ix l4)) * ((gI h8 (gR h8 l1 2) (ix l4)) - 4))), .int l3, .ref (gR h8 l0 0)]) (h' := h8) rfl ?_
      refine mX_ck (k' := 54) (ls' := [some (.ref l0), some (.ref l1), some (.int l2), some (.int l3), some (.int l4)]) (st' := []) (h' := (sI h8 (gR h8 l0 0) (ix l3) ((gI h8 (gR h8 l0 0) (ix l3)) - ((gI h8 (gR h8 l1 1) (ix l4)) * ((gI h8 (gR h8 l1 2) (ix l4)) - 4))))) rfl ?_
      refine lt_gen (X := fun h10 : MH => mX (mE mtab d) KX1_weigh 54 [some (.ref l0), some (.ref l1), some (.int l2), some (.int l3), some (.int l4)] [] h10) fun h10 => ?_
      rfl
    · rfl
  · refine mX_to 2 (k' := 17) (ls' := [some (.ref l0), some (.ref l1), some (.int l2), some (.int (l3 + 1)), some (.int l4)]) (st' := []) (h' := h) rfl ?_
    rfl
theorem D_X1_weigh_60 (d : Nat) (h : MH) (l0 : Nat) (l1 : Nat) (l2 : Int32) (l3 : Int32) (o4 : Option Value) : mX (mE mtab d) KX1_weigh 60 [some (.ref l0), some (.ref l1), some (.int l2), some (.int l3), o4] [] h = ck (kd h l0 = 2) ((if l3 ≤ (gI h l0 4) then ck (kd h l0 = 2) (cV (mE mtab d 277 [.ref l0, .int l3] h) (fun h12 => mX (mE mtab d) KX1_weigh 60 [some (.ref l0), some (.ref l1), some (.int l2), some (.int (l3 + 1)), o4] [] h12)) else some (.int 0, h))) := by
  refine mX_to 2 (k' := 62) (ls' := [some (.ref l0), some (.ref l1), some (.int l2), some (.int l3), o4]) (st' := [.ref l0, .int l3]) (h' := h) rfl ?_
  refine mX_ck (k' := 63) (ls' := [some (.ref l0), some (.ref l1), some (.int l2), some (.int l3), o4]) (st' := [.int (gI h l0 4), .int l3]) (h' := h) rfl ?_
  refine mX_br (t := 64) (f := 69) (ls' := [some (.ref l0), some (.ref l1), some (.int l2), some (.int l3), o4]) (st' := []) (h' := h) rfl ?_ ?_
  · refine mX_to 2 (k' := 66) (ls' := [some (.ref l0), some (.ref l1), some (.int l2), some (.int l3), o4]) (st' := [.int l3, .ref l0]) (h' := h) rfl ?_
    refine mX_ckc (m := mcl (mE mtab d 277 [.ref l0, .int l3] h) 0 67 [some (.ref l0), some (.ref l1), some (.int l2), some (.int l3), o4] []) rfl ?_
    refine mk_cV ?_
    intro h12
    refine mX_to 2 (k' := 60) (ls' := [some (.ref l0), some (.ref l1), some (.int l2), some (.int (l3 + 1)), o4]) (st' := []) (h' := h12) rfl ?_
    rfl
  · exact mX_ret rfl
theorem D_X1_weigh_54 (d : Nat) (h : MH) (l0 : Nat) (l1 : Nat) (l2 : Int32) (l3 : Int32) (l4 : Int32) : mX (mE mtab d) KX1_weigh 54 [some (.ref l0), some (.ref l1), some (.int l2), some (.int l3), some (.int l4)] [] h = mX (mE mtab d) KX1_weigh 28 [some (.ref l0), some (.ref l1), some (.int l2), some (.int l3), some (.int (l4 + 1))] [] h := by
  refine mX_to 2 (k' := 28) (ls' := [some (.ref l0), some (.ref l1), some (.int l2), some (.int l3), some (.int (l4 + 1))]) (st' := []) (h' := h) rfl ?_
  rfl
theorem D_X1_weigh (d : Nat) (h : MH) (a0 : Nat) (a1 : Nat) : mE mtab (d + 1) 278 [.ref a0, .ref a1] h = ck (kd h a1 = 10) (cI (mE mtab d 145 [.ref a1] h) (fun x2 h1 => ck (kd h1 a0 = 2) (lt_ (sI h1 a0 3 x2) fun h3 => ck (kd h3 a1 = 10) (ck (kd h3 a0 = 2) (lt_ (sI h3 a0 4 ((1 <<< ((gI h3 a1 0) &&& 31)) - 1)) fun h4 => ck (kd h4 a1 = 10) (cI (mE mtab d 139 [.ref a1] h4) (fun x6 h5 => mX (mE mtab d) KX1_weigh 17 [some (.ref a0), some (.ref a1), some (.int x6), some (.int 0), none] [] h5))))))) := by
  refine mE_eq (q := (yX1_weigh, cX1_weigh, 5, none, KX1_weigh)) (C := KX1_weigh) (ls := [some (.ref a0), some (.ref a1), none, none, none]) rfl rfl rfl rfl ?_
  refine mX_to 2 (k' := 2) (ls' := [some (.ref a0), some (.ref a1), none, none, none]) (st' := [.ref a1, .ref a0]) (h' := h) rfl ?_
  refine mX_ckc (m := mcl (mE mtab d 145 [.ref a1] h) 1 3 [some (.ref a0), some (.ref a1), none, none, none] [.ref a0]) rfl ?_
  refine mk_cI ?_
  intro x2 h1
  refine mX_ck (k' := 4) (ls' := [some (.ref a0), some (.ref a1), none, none, none]) (st' := []) (h' := (sI h1 a0 3 x2)) rfl ?_
  refine lt_gen (X := fun h3 : MH => mX (mE mtab d) KX1_weigh 4 [some (.ref a0), some (.ref a1), none, none, none] [] h3) fun h3 => ?_
  refine mX_to 3 (k' := 7) (ls' := [some (.ref a0), some (.ref a1), none, none, none]) (st' := [.ref a1, .int 1, .ref a0]) (h' := h3) rfl ?_
  refine mX_ck (k' := 8) (ls' := [some (.ref a0), some (.ref a1), none, none, none]) (st' := [.int (gI h3 a1 0), .int 1, .ref a0]) (h' := h3) rfl ?_
  refine mX_to 3 (k' := 11) (ls' := [some (.ref a0), some (.ref a1), none, none, none]) (st' := [.int ((1 <<< ((gI h3 a1 0) &&& 31)) - 1), .ref a0]) (h' := h3) rfl ?_
  refine mX_ck (k' := 12) (ls' := [some (.ref a0), some (.ref a1), none, none, none]) (st' := []) (h' := (sI h3 a0 4 ((1 <<< ((gI h3 a1 0) &&& 31)) - 1))) rfl ?_
  refine lt_gen (X := fun h4 : MH => mX (mE mtab d) KX1_weigh 12 [some (.ref a0), some (.ref a1), none, none, none] [] h4) fun h4 => ?_
  refine mX_to 1 (k' := 13) (ls' := [some (.ref a0), some (.ref a1), none, none, none]) (st' := [.ref a1]) (h' := h4) rfl ?_
  refine mX_ckc (m := mcl (mE mtab d 139 [.ref a1] h4) 1 14 [some (.ref a0), some (.ref a1), none, none, none] []) rfl ?_
  refine mk_cI ?_
  intro x6 h5
  refine mX_to 3 (k' := 17) (ls' := [some (.ref a0), some (.ref a1), some (.int x6), some (.int 0), none]) (st' := []) (h' := h5) rfl ?_
  rfl
theorem D_X1_winningFirst_2 (d : Nat) (h : MH) (l0 : Nat) (l1 : Int32) : mX (mE mtab d) KX1_winningFirst 2 [some (.ref l0), some (.int l1)] [] h = (if l1 < 4 then ck (kd h l0 = 2) (ck (kd h l0 = 2) (cI (mE mtab d 276 [.ref l0, .int (gI h l0 4), .int l1] h) (fun x2 h1 => (if x2 = 0 then mX (mE mtab d) KX1_winningFirst 23 [some (.ref l0), some (.int l1)] [] h1 else ck (kd h1 l0 = 2) (ck (kd h1 l0 = 2) (ck ((kd h1 (gR h1 l0 2) = 22 ∨ kd h1 (gR h1 l0 2) = 26) ∧ ib ((gI h1 l0 4) - (1 <<< (l1 &&& 31))) (ln h1 (gR h1 l0 2))) ((if (gI h1 (gR h1 l0 2) (ix ((gI h1 l0 4) - (1 <<< (l1 &&& 31))))) = 0 then some (.int l1, h1) else mX (mE mtab d) KX1_winningFirst 23 [some (.ref l0), some (.int l1)] [] h1)))))))) else some (.int (-1), h)) := by
  refine mX_to 2 (k' := 4) (ls' := [some (.ref l0), some (.int l1)]) (st' := [.int 4, .int l1]) (h' := h) rfl ?_
  refine mX_br (t := 5) (f := 25) (ls' := [some (.ref l0), some (.int l1)]) (st' := []) (h' := h) rfl ?_ ?_
  · refine mX_to 2 (k' := 7) (ls' := [some (.ref l0), some (.int l1)]) (st' := [.ref l0, .ref l0]) (h' := h) rfl ?_
    refine mX_ck (k' := 8) (ls' := [some (.ref l0), some (.int l1)]) (st' := [.int (gI h l0 4), .ref l0]) (h' := h) rfl ?_
    refine mX_to 1 (k' := 9) (ls' := [some (.ref l0), some (.int l1)]) (st' := [.int l1, .int (gI h l0 4), .ref l0]) (h' := h) rfl ?_
    refine mX_ckc (m := mcl (mE mtab d 276 [.ref l0, .int (gI h l0 4), .int l1] h) 1 10 [some (.ref l0), some (.int l1)] []) rfl ?_
    refine mk_cI ?_
    intro x2 h1
    refine mX_br (t := 23) (f := 11) (ls' := [some (.ref l0), some (.int l1)]) (st' := []) (h' := h1) rfl ?_ ?_
    · rfl
    · refine mX_to 1 (k' := 12) (ls' := [some (.ref l0), some (.int l1)]) (st' := [.ref l0]) (h' := h1) rfl ?_
      refine mX_ck (k' := 13) (ls' := [some (.ref l0), some (.int l1)]) (st' := [.ref (gR h1 l0 2)]) (h' := h1) rfl ?_
      refine mX_to 1 (k' := 14) (ls' := [some (.ref l0), some (.int l1)]) (st' := [.ref l0, .ref (gR h1 l0 2)]) (h' := h1) rfl ?_
      refine mX_ck (k' := 15) (ls' := [some (.ref l0), some (.int l1)]) (st' := [.int (gI h1 l0 4), .ref (gR h1 l0 2)]) (h' := h1) rfl ?_
      refine mX_to 4 (k' := 19) (ls' := [some (.ref l0), some (.int l1)]) (st' := [.int ((gI h1 l0 4) - (1 <<< (l1 &&& 31))), .ref (gR h1 l0 2)]) (h' := h1) rfl ?_
      refine mX_ck (k' := 20) (ls' := [some (.ref l0), some (.int l1)]) (st' := [.int (gI h1 (gR h1 l0 2) (ix ((gI h1 l0 4) - (1 <<< (l1 &&& 31)))))]) (h' := h1) rfl ?_
      refine mX_br (t := 21) (f := 23) (ls' := [some (.ref l0), some (.int l1)]) (st' := []) (h' := h1) rfl ?_ ?_
      · refine mX_to 1 (k' := 22) (ls' := [some (.ref l0), some (.int l1)]) (st' := [.int l1]) (h' := h1) rfl ?_
        exact mX_reti rfl
      · rfl
  · refine mX_to 1 (k' := 26) (ls' := [some (.ref l0), some (.int l1)]) (st' := [.int (-1)]) (h' := h) rfl ?_
    exact mX_reti rfl
theorem D_X1_winningFirst_23 (d : Nat) (h : MH) (l0 : Nat) (l1 : Int32) : mX (mE mtab d) KX1_winningFirst 23 [some (.ref l0), some (.int l1)] [] h = mX (mE mtab d) KX1_winningFirst 2 [some (.ref l0), some (.int (l1 + 1))] [] h := by
  refine mX_to 2 (k' := 2) (ls' := [some (.ref l0), some (.int (l1 + 1))]) (st' := []) (h' := h) rfl ?_
  rfl
theorem D_X1_winningFirst (d : Nat) (h : MH) (a0 : Nat) : mE mtab (d + 1) 279 [.ref a0] h = mX (mE mtab d) KX1_winningFirst 2 [some (.ref a0), some (.int 0)] [] h := by
  refine mE_eq (q := (yX1_winningFirst, cX1_winningFirst, 2, (some .int), KX1_winningFirst)) (C := KX1_winningFirst) (ls := [some (.ref a0), none]) rfl rfl rfl rfl ?_
  refine mX_to 2 (k' := 2) (ls' := [some (.ref a0), some (.int 0)]) (st' := []) (h' := h) rfl ?_
  rfl
theorem D_X10_quarrel (d : Nat) (h : MH) (a0 : Nat) (a1 : Int32) : mE mtab (d + 1) 280 [.ref a0, .int a1] h = ck (kd h a0 = 11) (ck (kd h a0 = 11) (ck (kd h (gR h a0 0) = 1) (ck (kd h (gR h a0 6) = 2) (cV (mE mtab d 278 [.ref (gR h a0 6), .ref (gR h (gR h a0 0) 0)] h) (fun h1 => ck (kd h1 a0 = 11) (ck (kd h1 (gR h1 a0 6) = 2) (cI (mE mtab d 279 [.ref (gR h1 a0 6)] h1) (fun x3 h2 => (if a1 = 0 then (if x3 = (-1) then some (.int 0, h2) else some (.int 1, h2)) else some (.int x3, h2)))))))))) := by
  refine mE_eq (q := (yX10_quarrel, cX10_quarrel, 3, (some .int), KX10_quarrel)) (C := KX10_quarrel) (ls := [some (.ref a0), some (.int a1), none]) rfl rfl rfl rfl ?_
  refine mX_to 1 (k' := 1) (ls' := [some (.ref a0), some (.int a1), none]) (st' := [.ref a0]) (h' := h) rfl ?_
  refine mX_ck (k' := 2) (ls' := [some (.ref a0), some (.int a1), none]) (st' := [.ref (gR h a0 6)]) (h' := h) rfl ?_
  refine mX_to 1 (k' := 3) (ls' := [some (.ref a0), some (.int a1), none]) (st' := [.ref a0, .ref (gR h a0 6)]) (h' := h) rfl ?_
  refine mX_ck (k' := 4) (ls' := [some (.ref a0), some (.int a1), none]) (st' := [.ref (gR h a0 0), .ref (gR h a0 6)]) (h' := h) rfl ?_
  refine mX_ck (k' := 5) (ls' := [some (.ref a0), some (.int a1), none]) (st' := [.ref (gR h (gR h a0 0) 0), .ref (gR h a0 6)]) (h' := h) rfl ?_
  refine mX_ckc (m := mcl (mE mtab d 278 [.ref (gR h a0 6), .ref (gR h (gR h a0 0) 0)] h) 0 6 [some (.ref a0), some (.int a1), none] []) rfl ?_
  refine mk_cV ?_
  intro h1
  refine mX_to 1 (k' := 7) (ls' := [some (.ref a0), some (.int a1), none]) (st' := [.ref a0]) (h' := h1) rfl ?_
  refine mX_ck (k' := 8) (ls' := [some (.ref a0), some (.int a1), none]) (st' := [.ref (gR h1 a0 6)]) (h' := h1) rfl ?_
  refine mX_ckc (m := mcl (mE mtab d 279 [.ref (gR h1 a0 6)] h1) 1 9 [some (.ref a0), some (.int a1), none] []) rfl ?_
  refine mk_cI ?_
  intro x3 h2
  refine mX_to 2 (k' := 11) (ls' := [some (.ref a0), some (.int a1), some (.int x3)]) (st' := [.int a1]) (h' := h2) rfl ?_
  refine mX_br (t := 14) (f := 12) (ls' := [some (.ref a0), some (.int a1), some (.int x3)]) (st' := []) (h' := h2) rfl ?_ ?_
  · refine mX_to 2 (k' := 16) (ls' := [some (.ref a0), some (.int a1), some (.int x3)]) (st' := [.int (-1), .int x3]) (h' := h2) rfl ?_
    refine mX_br (t := 17) (f := 19) (ls' := [some (.ref a0), some (.int a1), some (.int x3)]) (st' := []) (h' := h2) rfl ?_ ?_
    · refine mX_to 2 (k' := 20) (ls' := [some (.ref a0), some (.int a1), some (.int x3)]) (st' := [.int 0]) (h' := h2) rfl ?_
      exact mX_reti rfl
    · refine mX_to 1 (k' := 20) (ls' := [some (.ref a0), some (.int a1), some (.int x3)]) (st' := [.int 1]) (h' := h2) rfl ?_
      exact mX_reti rfl
  · refine mX_to 1 (k' := 13) (ls' := [some (.ref a0), some (.int a1), some (.int x3)]) (st' := [.int x3]) (h' := h2) rfl ?_
    exact mX_reti rfl
theorem D_X11_canLeave (d : Nat) (h : MH) (a0 : Nat) (a1 : Int32) (a2 : Int32) (a3 : Int32) : mE mtab (d + 1) 281 [.ref a0, .int a1, .int a2, .int a3] h = cI (mE mtab d 108 [.int a1, .int a2] h) (fun x2 h1 => (if x2 = 0 then some (.int 0, h1) else ck (kd h1 a0 = 12) (cI (mE mtab d 155 [.ref a0, .int (a1 &&& ((1 <<< (a2 &&& 31)) ^^^ (-1)))] h1) (fun x4 h3 => cI (mE mtab d 157 [.int x4] h3) (fun x6 h5 => (if x6 ≤ a3 then some (.int 1, h5) else some (.int 0, h5))))))) := by
  refine mE_eq (q := (yX11_canLeave, cX11_canLeave, 4, (some .boolean), KX11_canLeave)) (C := KX11_canLeave) (ls := [some (.ref a0), some (.int a1), some (.int a2), some (.int a3)]) rfl rfl rfl rfl ?_
  refine mX_to 2 (k' := 2) (ls' := [some (.ref a0), some (.int a1), some (.int a2), some (.int a3)]) (st' := [.int a2, .int a1]) (h' := h) rfl ?_
  refine mX_cI (o := mE mtab d 108 [.int a1, .int a2] h) (k' := 3) (ls' := [some (.ref a0), some (.int a1), some (.int a2), some (.int a3)]) (st' := []) rfl ?_
  intro x2 h1
  refine mX_br (t := 18) (f := 4) (ls' := [some (.ref a0), some (.int a1), some (.int a2), some (.int a3)]) (st' := []) (h' := h1) rfl ?_ ?_
  · refine mX_to 1 (k' := 19) (ls' := [some (.ref a0), some (.int a1), some (.int a2), some (.int a3)]) (st' := [.int 0]) (h' := h1) rfl ?_
    exact mX_retb (by decide) rfl
  · refine mX_to 8 (k' := 12) (ls' := [some (.ref a0), some (.int a1), some (.int a2), some (.int a3)]) (st' := [.int (a1 &&& ((1 <<< (a2 &&& 31)) ^^^ (-1))), .ref a0]) (h' := h1) rfl ?_
    refine mX_ckc (m := mcl (mE mtab d 155 [.ref a0, .int (a1 &&& ((1 <<< (a2 &&& 31)) ^^^ (-1)))] h1) 1 13 [some (.ref a0), some (.int a1), some (.int a2), some (.int a3)] []) rfl ?_
    refine mk_cI ?_
    intro x4 h3
    refine mX_cI (o := mE mtab d 157 [.int x4] h3) (k' := 14) (ls' := [some (.ref a0), some (.int a1), some (.int a2), some (.int a3)]) (st' := []) rfl ?_
    intro x6 h5
    refine mX_to 1 (k' := 15) (ls' := [some (.ref a0), some (.int a1), some (.int a2), some (.int a3)]) (st' := [.int a3, .int x6]) (h' := h5) rfl ?_
    refine mX_br (t := 16) (f := 18) (ls' := [some (.ref a0), some (.int a1), some (.int a2), some (.int a3)]) (st' := []) (h' := h5) rfl ?_ ?_
    · refine mX_to 2 (k' := 19) (ls' := [some (.ref a0), some (.int a1), some (.int a2), some (.int a3)]) (st' := [.int 1]) (h' := h5) rfl ?_
      exact mX_retb (by decide) rfl
    · refine mX_to 1 (k' := 19) (ls' := [some (.ref a0), some (.int a1), some (.int a2), some (.int a3)]) (st' := [.int 0]) (h' := h5) rfl ?_
      exact mX_retb (by decide) rfl
theorem D_X11_layLeaving_5 (d : Nat) (h : MH) (l0 : Nat) (l1 : Int32) (l2 : Int32) (o3 : Option Value) : mX (mE mtab d) KX11_layLeaving 5 [some (.ref l0), some (.int l1), some (.int l2), o3] [] h = ck (kd h l0 = 12) (cI (mE mtab d 154 [.ref l0] h) (fun x4 h3 => (if l2 ≤ x4 then ck (kd h3 l0 = 12) (ck (kd h3 (gR h3 l0 31) = 22 ∧ ib l2 (ln h3 (gR h3 l0 31)) ∧ ((0 : Int32) = 0 ∨ (0 : Int32) = 1)) (lt_ (sI h3 (gR h3 l0 31) (ix l2) 0) fun h5 => ck (kd h5 l0 = 12) ((if l2 = 0 then mX (mE mtab d) KX11_layLeaving 22 [some (.ref l0), some (.int l1), some (.int l2), o3] [.long 1, .int l2, .ref (gR h5 l0 32)] h5 else mX (mE mtab d) KX11_layLeaving 22 [some (.ref l0), some (.int l1), some (.int l2), o3] [.long 0, .int l2, .ref (gR h5 l0 32)] h5)))) else some (.int 0, h3)))) := by
  refine mX_to 2 (k' := 7) (ls' := [some (.ref l0), some (.int l1), some (.int l2), o3]) (st' := [.ref l0, .int l2]) (h' := h) rfl ?_
  refine mX_ckc (m := mcl (mE mtab d 154 [.ref l0] h) 1 8 [some (.ref l0), some (.int l1), some (.int l2), o3] [.int l2]) rfl ?_
  refine mk_cI ?_
  intro x4 h3
  refine mX_br (t := 9) (f := 80) (ls' := [some (.ref l0), some (.int l1), some (.int l2), o3]) (st' := []) (h' := h3) rfl ?_ ?_
  · refine mX_to 1 (k' := 10) (ls' := [some (.ref l0), some (.int l1), some (.int l2), o3]) (st' := [.ref l0]) (h' := h3) rfl ?_
    refine mX_ck (k' := 11) (ls' := [some (.ref l0), some (.int l1), some (.int l2), o3]) (st' := [.ref (gR h3 l0 31)]) (h' := h3) rfl ?_
    refine mX_to 2 (k' := 13) (ls' := [some (.ref l0), some (.int l1), some (.int l2), o3]) (st' := [.int 0, .int l2, .ref (gR h3 l0 31)]) (h' := h3) rfl ?_
    refine mX_ck (k' := 14) (ls' := [some (.ref l0), some (.int l1), some (.int l2), o3]) (st' := []) (h' := (sI h3 (gR h3 l0 31) (ix l2) 0)) rfl ?_
    refine lt_gen (X := fun h5 : MH => mX (mE mtab d) KX11_layLeaving 14 [some (.ref l0), some (.int l1), some (.int l2), o3] [] h5) fun h5 => ?_
    refine mX_to 1 (k' := 15) (ls' := [some (.ref l0), some (.int l1), some (.int l2), o3]) (st' := [.ref l0]) (h' := h5) rfl ?_
    refine mX_ck (k' := 16) (ls' := [some (.ref l0), some (.int l1), some (.int l2), o3]) (st' := [.ref (gR h5 l0 32)]) (h' := h5) rfl ?_
    refine mX_to 2 (k' := 18) (ls' := [some (.ref l0), some (.int l1), some (.int l2), o3]) (st' := [.int l2, .int l2, .ref (gR h5 l0 32)]) (h' := h5) rfl ?_
    refine mX_br (t := 19) (f := 21) (ls' := [some (.ref l0), some (.int l1), some (.int l2), o3]) (st' := [.int l2, .ref (gR h5 l0 32)]) (h' := h5) rfl ?_ ?_
    · refine mX_to 2 (k' := 22) (ls' := [some (.ref l0), some (.int l1), some (.int l2), o3]) (st' := [.long 1, .int l2, .ref (gR h5 l0 32)]) (h' := h5) rfl ?_
      rfl
    · refine mX_to 1 (k' := 22) (ls' := [some (.ref l0), some (.int l1), some (.int l2), o3]) (st' := [.long 0, .int l2, .ref (gR h5 l0 32)]) (h' := h5) rfl ?_
      rfl
  · exact mX_ret rfl
theorem D_X11_layLeaving_22 (d : Nat) (h : MH) (l0 : Nat) (l1 : Int32) (l2 : Int32) (o3 : Option Value) (s0 : Int64) (s1 : Int32) (s2 : Nat) : mX (mE mtab d) KX11_layLeaving 22 [some (.ref l0), some (.int l1), some (.int l2), o3] [.long s0, .int s1, .ref s2] h = ck (kd h s2 = 21 ∧ ib s1 (ln h s2)) (lt_ (sL h s2 (ix s1) s0) fun h6 => mX (mE mtab d) KX11_layLeaving 25 [some (.ref l0), some (.int l1), some (.int l2), some (.int 0)] [] h6) := by
  refine mX_ck (k' := 23) (ls' := [some (.ref l0), some (.int l1), some (.int l2), o3]) (st' := []) (h' := (sL h s2 (ix s1) s0)) rfl ?_
  refine lt_gen (X := fun h6 : MH => mX (mE mtab d) KX11_layLeaving 23 [some (.ref l0), some (.int l1), some (.int l2), o3] [] h6) fun h6 => ?_
  refine mX_to 2 (k' := 25) (ls' := [some (.ref l0), some (.int l1), some (.int l2), some (.int 0)]) (st' := []) (h' := h6) rfl ?_
  rfl
theorem D_X11_layLeaving_25 (d : Nat) (h : MH) (l0 : Nat) (l1 : Int32) (l2 : Int32) (l3 : Int32) : mX (mE mtab d) KX11_layLeaving 25 [some (.ref l0), some (.int l1), some (.int l2), some (.int l3)] [] h = ck (kd h l0 = 12) (ck ((kd h (gR h l0 0) = 20 ∨ kd h (gR h l0 0) = 24) ∧ ib (0 : Int32) (ln h (gR h l0 0))) ((if l3 < (gI h (gR h l0 0) (ix (0 : Int32))) then ck (kd h l0 = 12) (cI (mE mtab d 281 [.ref l0, .int l2, .int l3, .int l1] h) (fun x8 h7 => (if x8 = 0 then mX (mE mtab d) KX11_layLeaving 76 [some (.ref l0), some (.int l1), some (.int l2), some (.int l3)] [] h7 else ck (kd h7 l0 = 12) (ck ((kd h7 (gR h7 l0 31) = 22 ∨ kd h7 (gR h7 l0 31) = 26) ∧ ib l2 (ln h7 (gR h7 l0 31))) (ck (kd h7 l0 = 12) (ck ((kd h7 (gR h7 l0 31) = 22 ∨ kd h7 (gR h7 l0 31) = 26) ∧ ib (l2 &&& ((1 <<< (l3 &&& 31)) ^^^ (-1))) (ln h7 (gR h7 l0 31))) ((if (gI h7 (gR h7 l0 31) (ix (l2 &&& ((1 <<< (l3 &&& 31)) ^^^ (-1))))) = 0 then mX (mE mtab d) KX11_layLeaving 57 [some (.ref l0), some (.int l1), some (.int l2), some (.int l3)] [.int 1, .int (gI h7 (gR h7 l0 31) (ix l2)), .int l2, .ref (gR h7 l0 31)] h7 else mX (mE mtab d) KX11_layLeaving 57 [some (.ref l0), some (.int l1), some (.int l2), some (.int l3)] [.int 0, .int (gI h7 (gR h7 l0 31) (ix l2)), .int l2, .ref (gR h7 l0 31)] h7)))))))) else mX (mE mtab d) KX11_layLeaving 5 [some (.ref l0), some (.int l1), some (.int (l2 + 1)), some (.int l3)] [] h))) := by
  refine mX_to 2 (k' := 27) (ls' := [some (.ref l0), some (.int l1), some (.int l2), some (.int l3)]) (st' := [.ref l0, .int l3]) (h' := h) rfl ?_
  refine mX_ck (k' := 28) (ls' := [some (.ref l0), some (.int l1), some (.int l2), some (.int l3)]) (st' := [.ref (gR h l0 0), .int l3]) (h' := h) rfl ?_
  refine mX_to 1 (k' := 29) (ls' := [some (.ref l0), some (.int l1), some (.int l2), some (.int l3)]) (st' := [.int 0, .ref (gR h l0 0), .int l3]) (h' := h) rfl ?_
  refine mX_ck (k' := 30) (ls' := [some (.ref l0), some (.int l1), some (.int l2), some (.int l3)]) (st' := [.int (gI h (gR h l0 0) (ix (0 : Int32))), .int l3]) (h' := h) rfl ?_
  refine mX_br (t := 31) (f := 78) (ls' := [some (.ref l0), some (.int l1), some (.int l2), some (.int l3)]) (st' := []) (h' := h) rfl ?_ ?_
  · refine mX_to 4 (k' := 35) (ls' := [some (.ref l0), some (.int l1), some (.int l2), some (.int l3)]) (st' := [.int l1, .int l3, .int l2, .ref l0]) (h' := h) rfl ?_
    refine mX_ckc (m := mcl (mE mtab d 281 [.ref l0, .int l2, .int l3, .int l1] h) 1 36 [some (.ref l0), some (.int l1), some (.int l2), some (.int l3)] []) rfl ?_
    refine mk_cI ?_
    intro x8 h7
    refine mX_br (t := 37) (f := 38) (ls' := [some (.ref l0), some (.int l1), some (.int l2), some (.int l3)]) (st' := []) (h' := h7) rfl ?_ ?_
    · refine mX_to 1 (k' := 76) (ls' := [some (.ref l0), some (.int l1), some (.int l2), some (.int l3)]) (st' := []) (h' := h7) rfl ?_
      rfl
    · refine mX_to 1 (k' := 39) (ls' := [some (.ref l0), some (.int l1), some (.int l2), some (.int l3)]) (st' := [.ref l0]) (h' := h7) rfl ?_
      refine mX_ck (k' := 40) (ls' := [some (.ref l0), some (.int l1), some (.int l2), some (.int l3)]) (st' := [.ref (gR h7 l0 31)]) (h' := h7) rfl ?_
      refine mX_to 2 (k' := 42) (ls' := [some (.ref l0), some (.int l1), some (.int l2), some (.int l3)]) (st' := [.int l2, .ref (gR h7 l0 31), .int l2, .ref (gR h7 l0 31)]) (h' := h7) rfl ?_
      refine mX_ck (k' := 43) (ls' := [some (.ref l0), some (.int l1), some (.int l2), some (.int l3)]) (st' := [.int (gI h7 (gR h7 l0 31) (ix l2)), .int l2, .ref (gR h7 l0 31)]) (h' := h7) rfl ?_
      refine mX_to 1 (k' := 44) (ls' := [some (.ref l0), some (.int l1), some (.int l2), some (.int l3)]) (st' := [.ref l0, .int (gI h7 (gR h7 l0 31) (ix l2)), .int l2, .ref (gR h7 l0 31)]) (h' := h7) rfl ?_
      refine mX_ck (k' := 45) (ls' := [some (.ref l0), some (.int l1), some (.int l2), some (.int l3)]) (st' := [.ref (gR h7 l0 31), .int (gI h7 (gR h7 l0 31) (ix l2)), .int l2, .ref (gR h7 l0 31)]) (h' := h7) rfl ?_
      refine mX_to 7 (k' := 52) (ls' := [some (.ref l0), some (.int l1), some (.int l2), some (.int l3)]) (st' := [.int (l2 &&& ((1 <<< (l3 &&& 31)) ^^^ (-1))), .ref (gR h7 l0 31), .int (gI h7 (gR h7 l0 31) (ix l2)), .int l2, .ref (gR h7 l0 31)]) (h' := h7) rfl ?_
      refine mX_ck (k' := 53) (ls' := [some (.ref l0), some (.int l1), some (.int l2), some (.int l3)]) (st' := [.int (gI h7 (gR h7 l0 31) (ix (l2 &&& ((1 <<< (l3 &&& 31)) ^^^ (-1))))), .int (gI h7 (gR h7 l0 31) (ix l2)), .int l2, .ref (gR h7 l0 31)]) (h' := h7) rfl ?_
      refine mX_br (t := 54) (f := 56) (ls' := [some (.ref l0), some (.int l1), some (.int l2), some (.int l3)]) (st' := [.int (gI h7 (gR h7 l0 31) (ix l2)), .int l2, .ref (gR h7 l0 31)]) (h' := h7) rfl ?_ ?_
      · refine mX_to 2 (k' := 57) (ls' := [some (.ref l0), some (.int l1), some (.int l2), some (.int l3)]) (st' := [.int 1, .int (gI h7 (gR h7 l0 31) (ix l2)), .int l2, .ref (gR h7 l0 31)]) (h' := h7) rfl ?_
        rfl
      · refine mX_to 1 (k' := 57) (ls' := [some (.ref l0), some (.int l1), some (.int l2), some (.int l3)]) (st' := [.int 0, .int (gI h7 (gR h7 l0 31) (ix l2)), .int l2, .ref (gR h7 l0 31)]) (h' := h7) rfl ?_
        rfl
  · refine mX_to 2 (k' := 5) (ls' := [some (.ref l0), some (.int l1), some (.int (l2 + 1)), some (.int l3)]) (st' := []) (h' := h) rfl ?_
    rfl
theorem D_X11_layLeaving_76 (d : Nat) (h : MH) (l0 : Nat) (l1 : Int32) (l2 : Int32) (l3 : Int32) : mX (mE mtab d) KX11_layLeaving 76 [some (.ref l0), some (.int l1), some (.int l2), some (.int l3)] [] h = mX (mE mtab d) KX11_layLeaving 25 [some (.ref l0), some (.int l1), some (.int l2), some (.int (l3 + 1))] [] h := by
  refine mX_to 2 (k' := 25) (ls' := [some (.ref l0), some (.int l1), some (.int l2), some (.int (l3 + 1))]) (st' := []) (h' := h) rfl ?_
  rfl
theorem D_X11_layLeaving_57 (d : Nat) (h : MH) (l0 : Nat) (l1 : Int32) (l2 : Int32) (l3 : Int32) (s0 : Int32) (s1 : Int32) (s2 : Int32) (s3 : Nat) : mX (mE mtab d) KX11_layLeaving 57 [some (.ref l0), some (.int l1), some (.int l2), some (.int l3)] [.int s0, .int s1, .int s2, .ref s3] h = ck (kd h s3 = 22 ∧ ib s2 (ln h s3) ∧ ((s1 ||| s0) = 0 ∨ (s1 ||| s0) = 1)) (lt_ (sI h s3 (ix s2) (s1 ||| s0)) fun h11 => ck (kd h11 l0 = 12) (ck (kd h11 (gR h11 l0 32) = 21 ∧ ib l2 (ln h11 (gR h11 l0 32))) (ck (kd h11 l0 = 12) (ck (kd h11 (gR h11 l0 32) = 21 ∧ ib (l2 &&& ((1 <<< (l3 &&& 31)) ^^^ (-1))) (ln h11 (gR h11 l0 32))) (ck (kd h11 (gR h11 l0 32) = 21 ∧ ib l2 (ln h11 (gR h11 l0 32))) (lt_ (sL h11 (gR h11 l0 32) (ix l2) ((gL h11 (gR h11 l0 32) (ix l2)) + (gL h11 (gR h11 l0 32) (ix (l2 &&& ((1 <<< (l3 &&& 31)) ^^^ (-1))))))) fun h12 => mX (mE mtab d) KX11_layLeaving 76 [some (.ref l0), some (.int l1), some (.int l2), some (.int l3)] [] h12)))))) := by
  refine mX_to 1 (k' := 58) (ls' := [some (.ref l0), some (.int l1), some (.int l2), some (.int l3)]) (st' := [.int (s1 ||| s0), .int s2, .ref s3]) (h' := h) rfl ?_
  refine mX_ck (k' := 59) (ls' := [some (.ref l0), some (.int l1), some (.int l2), some (.int l3)]) (st' := []) (h' := (sI h s3 (ix s2) (s1 ||| s0))) rfl ?_
  refine lt_gen (X := fun h11 : MH => mX (mE mtab d) KX11_layLeaving 59 [some (.ref l0), some (.int l1), some (.int l2), some (.int l3)] [] h11) fun h11 => ?_
  refine mX_to 1 (k' := 60) (ls' := [some (.ref l0), some (.int l1), some (.int l2), some (.int l3)]) (st' := [.ref l0]) (h' := h11) rfl ?_
  refine mX_ck (k' := 61) (ls' := [some (.ref l0), some (.int l1), some (.int l2), some (.int l3)]) (st' := [.ref (gR h11 l0 32)]) (h' := h11) rfl ?_
  refine mX_to 2 (k' := 63) (ls' := [some (.ref l0), some (.int l1), some (.int l2), some (.int l3)]) (st' := [.int l2, .ref (gR h11 l0 32), .int l2, .ref (gR h11 l0 32)]) (h' := h11) rfl ?_
  refine mX_ck (k' := 64) (ls' := [some (.ref l0), some (.int l1), some (.int l2), some (.int l3)]) (st' := [.long (gL h11 (gR h11 l0 32) (ix l2)), .int l2, .ref (gR h11 l0 32)]) (h' := h11) rfl ?_
  refine mX_to 1 (k' := 65) (ls' := [some (.ref l0), some (.int l1), some (.int l2), some (.int l3)]) (st' := [.ref l0, .long (gL h11 (gR h11 l0 32) (ix l2)), .int l2, .ref (gR h11 l0 32)]) (h' := h11) rfl ?_
  refine mX_ck (k' := 66) (ls' := [some (.ref l0), some (.int l1), some (.int l2), some (.int l3)]) (st' := [.ref (gR h11 l0 32), .long (gL h11 (gR h11 l0 32) (ix l2)), .int l2, .ref (gR h11 l0 32)]) (h' := h11) rfl ?_
  refine mX_to 7 (k' := 73) (ls' := [some (.ref l0), some (.int l1), some (.int l2), some (.int l3)]) (st' := [.int (l2 &&& ((1 <<< (l3 &&& 31)) ^^^ (-1))), .ref (gR h11 l0 32), .long (gL h11 (gR h11 l0 32) (ix l2)), .int l2, .ref (gR h11 l0 32)]) (h' := h11) rfl ?_
  refine mX_ck (k' := 74) (ls' := [some (.ref l0), some (.int l1), some (.int l2), some (.int l3)]) (st' := [.long (gL h11 (gR h11 l0 32) (ix (l2 &&& ((1 <<< (l3 &&& 31)) ^^^ (-1))))), .long (gL h11 (gR h11 l0 32) (ix l2)), .int l2, .ref (gR h11 l0 32)]) (h' := h11) rfl ?_
  refine mX_to 1 (k' := 75) (ls' := [some (.ref l0), some (.int l1), some (.int l2), some (.int l3)]) (st' := [.long ((gL h11 (gR h11 l0 32) (ix l2)) + (gL h11 (gR h11 l0 32) (ix (l2 &&& ((1 <<< (l3 &&& 31)) ^^^ (-1)))))), .int l2, .ref (gR h11 l0 32)]) (h' := h11) rfl ?_
  refine mX_ck (k' := 76) (ls' := [some (.ref l0), some (.int l1), some (.int l2), some (.int l3)]) (st' := []) (h' := (sL h11 (gR h11 l0 32) (ix l2) ((gL h11 (gR h11 l0 32) (ix l2)) + (gL h11 (gR h11 l0 32) (ix (l2 &&& ((1 <<< (l3 &&& 31)) ^^^ (-1)))))))) rfl ?_
  refine lt_gen (X := fun h12 : MH => mX (mE mtab d) KX11_layLeaving 76 [some (.ref l0), some (.int l1), some (.int l2), some (.int l3)] [] h12) fun h12 => ?_
  rfl
theorem D_X11_layLeaving (d : Nat) (h : MH) (a0 : Nat) : mE mtab (d + 1) 282 [.ref a0] h = ck (kd h a0 = 12) (cI (mE mtab d 172 [.ref a0] h) (fun x2 h1 => mX (mE mtab d) KX11_layLeaving 5 [some (.ref a0), some (.int x2), some (.int 0), none] [] h1)) := by
  refine mE_eq (q := (yX11_layLeaving, cX11_layLeaving, 4, none, KX11_layLeaving)) (C := KX11_layLeaving) (ls := [some (.ref a0), none, none, none]) rfl rfl rfl rfl ?_
  refine mX_to 1 (k' := 1) (ls' := [some (.ref a0), none, none, none]) (st' := [.ref a0]) (h' := h) rfl ?_
  refine mX_ckc (m := mcl (mE mtab d 172 [.ref a0] h) 1 2 [some (.ref a0), none, none, none] []) rfl ?_
  refine mk_cI ?_
  intro x2 h1
  refine mX_to 3 (k' := 5) (ls' := [some (.ref a0), some (.int x2), some (.int 0), none]) (st' := []) (h' := h1) rfl ?_
  rfl
