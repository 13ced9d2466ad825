/-! EQUATIONS OF THE METHODS (written by wip/gen/dgen.py) -/
theorem D_X4_product_6 (d : Nat) (h : MH) (l0 : Nat) (l1 : Int32) (l2 : Int32) (l3 : Int32) (o4 : Option Value) : mX (mE mtab d) KX4_product 6 [some (.ref l0), some (.int l1), some (.int l2), some (.int l3), o4] [] h = (if l3 < 300 then (if l2 = 0 then ck (mrt 1 l2) (some (.int l2, h)) else ck (kd h l0 = 5) (cI (mE mtab d 68 [.ref l0] h) (fun x4 h3 => (if x4 = 42 then mX (mE mtab d) KX4_product 19 [some (.ref l0), some (.int l1), some (.int l2), some (.int l3), o4] [] h3 else ck (kd h3 l0 = 5) (cI (mE mtab d 68 [.ref l0] h3) (fun x6 h5 => (if x6 = 47 then mX (mE mtab d) KX4_product 19 [some (.ref l0), some (.int l1), some (.int l2), some (.int l3), o4] [] h5 else ck (mrt 1 l2) (some (.int l2, h5))))))))) else ck (mrt 1 l2) (some (.int l2, h))) := by
  refine mX_to 2 (k' := 8) (ls' := [some (.ref l0), some (.int l1), some (.int l2), some (.int l3), o4]) (st' := [.int 300, .int l3]) (h' := h) rfl ?_
  refine mX_br (t := 9) (f := 40) (ls' := [some (.ref l0), some (.int l1), some (.int l2), some (.int l3), o4]) (st' := []) (h' := h) rfl ?_ ?_
  · refine mX_to 1 (k' := 10) (ls' := [some (.ref l0), some (.int l1), some (.int l2), some (.int l3), o4]) (st' := [.int l2]) (h' := h) rfl ?_
    refine mX_br (t := 40) (f := 11) (ls' := [some (.ref l0), some (.int l1), some (.int l2), some (.int l3), o4]) (st' := []) (h' := h) rfl ?_ ?_
    · refine mX_to 1 (k' := 41) (ls' := [some (.ref l0), some (.int l1), some (.int l2), some (.int l3), o4]) (st' := [.int l2]) (h' := h) rfl ?_
      exact mX_retc rfl
    · refine mX_to 1 (k' := 12) (ls' := [some (.ref l0), some (.int l1), some (.int l2), some (.int l3), o4]) (st' := [.ref l0]) (h' := h) rfl ?_
      refine mX_ckc (m := mcl (mE mtab d 68 [.ref l0] h) 1 13 [some (.ref l0), some (.int l1), some (.int l2), some (.int l3), o4] []) rfl ?_
      refine mk_cI ?_
      intro x4 h3
      refine mX_to 1 (k' := 14) (ls' := [some (.ref l0), some (.int l1), some (.int l2), some (.int l3), o4]) (st' := [.int 42, .int x4]) (h' := h3) rfl ?_
      refine mX_br (t := 19) (f := 15) (ls' := [some (.ref l0), some (.int l1), some (.int l2), some (.int l3), o4]) (st' := []) (h' := h3) rfl ?_ ?_
      · rfl
      · refine mX_to 1 (k' := 16) (ls' := [some (.ref l0), some (.int l1), some (.int l2), some (.int l3), o4]) (st' := [.ref l0]) (h' := h3) rfl ?_
        refine mX_ckc (m := mcl (mE mtab d 68 [.ref l0] h3) 1 17 [some (.ref l0), some (.int l1), some (.int l2), some (.int l3), o4] []) rfl ?_
        refine mk_cI ?_
        intro x6 h5
        refine mX_to 1 (k' := 18) (ls' := [some (.ref l0), some (.int l1), some (.int l2), some (.int l3), o4]) (st' := [.int 47, .int x6]) (h' := h5) rfl ?_
        refine mX_br (t := 19) (f := 40) (ls' := [some (.ref l0), some (.int l1), some (.int l2), some (.int l3), o4]) (st' := []) (h' := h5) rfl ?_ ?_
        · rfl
        · refine mX_to 1 (k' := 41) (ls' := [some (.ref l0), some (.int l1), some (.int l2), some (.int l3), o4]) (st' := [.int l2]) (h' := h5) rfl ?_
          exact mX_retc rfl
  · refine mX_to 1 (k' := 41) (ls' := [some (.ref l0), some (.int l1), some (.int l2), some (.int l3), o4]) (st' := [.int l2]) (h' := h) rfl ?_
    exact mX_retc rfl
theorem D_X4_product_19 (d : Nat) (h : MH) (l0 : Nat) (l1 : Int32) (l2 : Int32) (l3 : Int32) (o4 : Option Value) : mX (mE mtab d) KX4_product 19 [some (.ref l0), some (.int l1), some (.int l2), some (.int l3), o4] [] h = ck (kd h l0 = 5) (cI (mE mtab d 68 [.ref l0] h) (fun x8 h7 => (if x8 = 42 then mX (mE mtab d) KX4_product 26 [some (.ref l0), some (.int l1), some (.int l2), some (.int l3), o4] [.int 10] h7 else mX (mE mtab d) KX4_product 26 [some (.ref l0), some (.int l1), some (.int l2), some (.int l3), o4] [.int 11] h7))) := by
  refine mX_to 1 (k' := 20) (ls' := [some (.ref l0), some (.int l1), some (.int l2), some (.int l3), o4]) (st' := [.ref l0]) (h' := h) rfl ?_
  refine mX_ckc (m := mcl (mE mtab d 68 [.ref l0] h) 1 21 [some (.ref l0), some (.int l1), some (.int l2), some (.int l3), o4] []) rfl ?_
  refine mk_cI ?_
  intro x8 h7
  refine mX_to 1 (k' := 22) (ls' := [some (.ref l0), some (.int l1), some (.int l2), some (.int l3), o4]) (st' := [.int 42, .int x8]) (h' := h7) rfl ?_
  refine mX_br (t := 23) (f := 25) (ls' := [some (.ref l0), some (.int l1), some (.int l2), some (.int l3), o4]) (st' := []) (h' := h7) rfl ?_ ?_
  · refine mX_to 2 (k' := 26) (ls' := [some (.ref l0), some (.int l1), some (.int l2), some (.int l3), o4]) (st' := [.int 10]) (h' := h7) rfl ?_
    rfl
  · refine mX_to 1 (k' := 26) (ls' := [some (.ref l0), some (.int l1), some (.int l2), some (.int l3), o4]) (st' := [.int 11]) (h' := h7) rfl ?_
    rfl
theorem D_X4_product_26 (d : Nat) (h : MH) (l0 : Nat) (l1 : Int32) (l2 : Int32) (l3 : Int32) (o4 : Option Value) (s0 : Int32) : mX (mE mtab d) KX4_product 26 [some (.ref l0), some (.int l1), some (.int l2), some (.int l3), o4] [.int s0] h = ck (kd h l0 = 5) (cV (mE mtab d 70 [.ref l0] h) (fun h9 => ck (kd h9 l0 = 5) (cI (mE mtab d 82 [.ref l0, .int l1] h9) (fun x11 h10 => ck (kd h10 l0 = 5) (cI (mE mtab d 71 [.ref l0, .int s0, .int 0] h10) (fun x13 h12 => mX (mE mtab d) KX4_product 6 [some (.ref l0), some (.int l1), some (.int x11), some (.int (l3 + 1)), some (.int s0)] [] h12)))))) := by
  refine mX_to 2 (k' := 28) (ls' := [some (.ref l0), some (.int l1), some (.int l2), some (.int l3), some (.int s0)]) (st' := [.ref l0]) (h' := h) rfl ?_
  refine mX_ckc (m := mcl (mE mtab d 70 [.ref l0] h) 0 29 [some (.ref l0), some (.int l1), some (.int l2), some (.int l3), some (.int s0)] []) rfl ?_
  refine mk_cV ?_
  intro h9
  refine mX_to 2 (k' := 31) (ls' := [some (.ref l0), some (.int l1), some (.int l2), some (.int l3), some (.int s0)]) (st' := [.int l1, .ref l0]) (h' := h9) rfl ?_
  refine mX_ckc (m := mcl (mE mtab d 82 [.ref l0, .int l1] h9) 1 32 [some (.ref l0), some (.int l1), some (.int l2), some (.int l3), some (.int s0)] []) rfl ?_
  refine mk_cI ?_
  intro x11 h10
  refine mX_to 4 (k' := 36) (ls' := [some (.ref l0), some (.int l1), some (.int x11), some (.int l3), some (.int s0)]) (st' := [.int 0, .int s0, .ref l0]) (h' := h10) rfl ?_
  refine mX_ckc (m := mcl (mE mtab d 71 [.ref l0, .int s0, .int 0] h10) 1 37 [some (.ref l0), some (.int l1), some (.int x11), some (.int l3), some (.int s0)] []) rfl ?_
  refine mk_cI ?_
  intro x13 h12
  refine mX_to 3 (k' := 6) (ls' := [some (.ref l0), some (.int l1), some (.int x11), some (.int (l3 + 1)), some (.int s0)]) (st' := []) (h' := h12) rfl ?_
  rfl
theorem D_X4_product (d : Nat) (h : MH) (a0 : Nat) (a1 : Int32) : mE mtab (d + 1) 83 [.ref a0, .int a1] h = ck (kd h a0 = 5) (cI (mE mtab d 82 [.ref a0, .int a1] h) (fun x2 h1 => mX (mE mtab d) KX4_product 6 [some (.ref a0), some (.int a1), some (.int x2), some (.int 0), none] [] h1)) := by
  refine mE_eq (q := (yX4_product, cX4_product, 5, (some .boolean), KX4_product)) (C := KX4_product) (ls := [some (.ref a0), some (.int a1), none, none, none]) rfl rfl rfl rfl ?_
  refine mX_to 2 (k' := 2) (ls' := [some (.ref a0), some (.int a1), none, none, none]) (st' := [.int a1, .ref a0]) (h' := h) rfl ?_
  refine mX_ckc (m := mcl (mE mtab d 82 [.ref a0, .int a1] h) 1 3 [some (.ref a0), some (.int a1), none, none, none] []) rfl ?_
  refine mk_cI ?_
  intro x2 h1
  refine mX_to 3 (k' := 6) (ls' := [some (.ref a0), some (.int a1), some (.int x2), some (.int 0), none]) (st' := []) (h' := h1) rfl ?_
  rfl
theorem D_X4_sum_6 (d : Nat) (h : MH) (l0 : Nat) (l1 : Int32) (l2 : Int32) (l3 : Int32) (o4 : Option Value) : mX (mE mtab d) KX4_sum 6 [some (.ref l0), some (.int l1), some (.int l2), some (.int l3), o4] [] h = (if l3 < 300 then (if l2 = 0 then ck (mrt 1 l2) (some (.int l2, h)) else ck (kd h l0 = 5) (cI (mE mtab d 68 [.ref l0] h) (fun x4 h3 => (if x4 = 43 then mX (mE mtab d) KX4_sum 19 [some (.ref l0), some (.int l1), some (.int l2), some (.int l3), o4] [] h3 else ck (kd h3 l0 = 5) (cI (mE mtab d 68 [.ref l0] h3) (fun x6 h5 => (if x6 = 45 then mX (mE mtab d) KX4_sum 19 [some (.ref l0), some (.int l1), some (.int l2), some (.int l3), o4] [] h5 else ck (mrt 1 l2) (some (.int l2, h5))))))))) else ck (mrt 1 l2) (some (.int l2, h))) := by
  refine mX_to 2 (k' := 8) (ls' := [some (.ref l0), some (.int l1), some (.int l2), some (.int l3), o4]) (st' := [.int 300, .int l3]) (h' := h) rfl ?_
  refine mX_br (t := 9) (f := 40) (ls' := [some (.ref l0), some (.int l1), some (.int l2), some (.int l3), o4]) (st' := []) (h' := h) rfl ?_ ?_
  · refine mX_to 1 (k' := 10) (ls' := [some (.ref l0), some (.int l1), some (.int l2), some (.int l3), o4]) (st' := [.int l2]) (h' := h) rfl ?_
    refine mX_br (t := 40) (f := 11) (ls' := [some (.ref l0), some (.int l1), some (.int l2), some (.int l3), o4]) (st' := []) (h' := h) rfl ?_ ?_
    · refine mX_to 1 (k' := 41) (ls' := [some (.ref l0), some (.int l1), some (.int l2), some (.int l3), o4]) (st' := [.int l2]) (h' := h) rfl ?_
      exact mX_retc rfl
    · refine mX_to 1 (k' := 12) (ls' := [some (.ref l0), some (.int l1), some (.int l2), some (.int l3), o4]) (st' := [.ref l0]) (h' := h) rfl ?_
      refine mX_ckc (m := mcl (mE mtab d 68 [.ref l0] h) 1 13 [some (.ref l0), some (.int l1), some (.int l2), some (.int l3), o4] []) rfl ?_
      refine mk_cI ?_
      intro x4 h3
      refine mX_to 1 (k' := 14) (ls' := [some (.ref l0), some (.int l1), some (.int l2), some (.int l3), o4]) (st' := [.int 43, .int x4]) (h' := h3) rfl ?_
      refine mX_br (t := 19) (f := 15) (ls' := [some (.ref l0), some (.int l1), some (.int l2), some (.int l3), o4]) (st' := []) (h' := h3) rfl ?_ ?_
      · rfl
      · refine mX_to 1 (k' := 16) (ls' := [some (.ref l0), some (.int l1), some (.int l2), some (.int l3), o4]) (st' := [.ref l0]) (h' := h3) rfl ?_
        refine mX_ckc (m := mcl (mE mtab d 68 [.ref l0] h3) 1 17 [some (.ref l0), some (.int l1), some (.int l2), some (.int l3), o4] []) rfl ?_
        refine mk_cI ?_
        intro x6 h5
        refine mX_to 1 (k' := 18) (ls' := [some (.ref l0), some (.int l1), some (.int l2), some (.int l3), o4]) (st' := [.int 45, .int x6]) (h' := h5) rfl ?_
        refine mX_br (t := 19) (f := 40) (ls' := [some (.ref l0), some (.int l1), some (.int l2), some (.int l3), o4]) (st' := []) (h' := h5) rfl ?_ ?_
        · rfl
        · refine mX_to 1 (k' := 41) (ls' := [some (.ref l0), some (.int l1), some (.int l2), some (.int l3), o4]) (st' := [.int l2]) (h' := h5) rfl ?_
          exact mX_retc rfl
  · refine mX_to 1 (k' := 41) (ls' := [some (.ref l0), some (.int l1), some (.int l2), some (.int l3), o4]) (st' := [.int l2]) (h' := h) rfl ?_
    exact mX_retc rfl
theorem D_X4_sum_19 (d : Nat) (h : MH) (l0 : Nat) (l1 : Int32) (l2 : Int32) (l3 : Int32) (o4 : Option Value) : mX (mE mtab d) KX4_sum 19 [some (.ref l0), some (.int l1), some (.int l2), some (.int l3), o4] [] h = ck (kd h l0 = 5) (cI (mE mtab d 68 [.ref l0] h) (fun x8 h7 => (if x8 = 43 then mX (mE mtab d) KX4_sum 26 [some (.ref l0), some (.int l1), some (.int l2), some (.int l3), o4] [.int 8] h7 else mX (mE mtab d) KX4_sum 26 [some (.ref l0), some (.int l1), some (.int l2), some (.int l3), o4] [.int 9] h7))) := by
  refine mX_to 1 (k' := 20) (ls' := [some (.ref l0), some (.int l1), some (.int l2), some (.int l3), o4]) (st' := [.ref l0]) (h' := h) rfl ?_
  refine mX_ckc (m := mcl (mE mtab d 68 [.ref l0] h) 1 21 [some (.ref l0), some (.int l1), some (.int l2), some (.int l3), o4] []) rfl ?_
  refine mk_cI ?_
  intro x8 h7
  refine mX_to 1 (k' := 22) (ls' := [some (.ref l0), some (.int l1), some (.int l2), some (.int l3), o4]) (st' := [.int 43, .int x8]) (h' := h7) rfl ?_
  refine mX_br (t := 23) (f := 25) (ls' := [some (.ref l0), some (.int l1), some (.int l2), some (.int l3), o4]) (st' := []) (h' := h7) rfl ?_ ?_
  · refine mX_to 2 (k' := 26) (ls' := [some (.ref l0), some (.int l1), some (.int l2), some (.int l3), o4]) (st' := [.int 8]) (h' := h7) rfl ?_
    rfl
  · refine mX_to 1 (k' := 26) (ls' := [some (.ref l0), some (.int l1), some (.int l2), some (.int l3), o4]) (st' := [.int 9]) (h' := h7) rfl ?_
    rfl
theorem D_X4_sum_26 (d : Nat) (h : MH) (l0 : Nat) (l1 : Int32) (l2 : Int32) (l3 : Int32) (o4 : Option Value) (s0 : Int32) : mX (mE mtab d) KX4_sum 26 [some (.ref l0), some (.int l1), some (.int l2), some (.int l3), o4] [.int s0] h = ck (kd h l0 = 5) (cV (mE mtab d 70 [.ref l0] h) (fun h9 => ck (kd h9 l0 = 5) (cI (mE mtab d 83 [.ref l0, .int l1] h9) (fun x11 h10 => ck (kd h10 l0 = 5) (cI (mE mtab d 71 [.ref l0, .int s0, .int 0] h10) (fun x13 h12 => mX (mE mtab d) KX4_sum 6 [some (.ref l0), some (.int l1), some (.int x11), some (.int (l3 + 1)), some (.int s0)] [] h12)))))) := by
  refine mX_to 2 (k' := 28) (ls' := [some (.ref l0), some (.int l1), some (.int l2), some (.int l3), some (.int s0)]) (st' := [.ref l0]) (h' := h) rfl ?_
  refine mX_ckc (m := mcl (mE mtab d 70 [.ref l0] h) 0 29 [some (.ref l0), some (.int l1), some (.int l2), some (.int l3), some (.int s0)] []) rfl ?_
  refine mk_cV ?_
  intro h9
  refine mX_to 2 (k' := 31) (ls' := [some (.ref l0), some (.int l1), some (.int l2), some (.int l3), some (.int s0)]) (st' := [.int l1, .ref l0]) (h' := h9) rfl ?_
  refine mX_ckc (m := mcl (mE mtab d 83 [.ref l0, .int l1] h9) 1 32 [some (.ref l0), some (.int l1), some (.int l2), some (.int l3), some (.int s0)] []) rfl ?_
  refine mk_cI ?_
  intro x11 h10
  refine mX_to 4 (k' := 36) (ls' := [some (.ref l0), some (.int l1), some (.int x11), some (.int l3), some (.int s0)]) (st' := [.int 0, .int s0, .ref l0]) (h' := h10) rfl ?_
  refine mX_ckc (m := mcl (mE mtab d 71 [.ref l0, .int s0, .int 0] h10) 1 37 [some (.ref l0), some (.int l1), some (.int x11), some (.int l3), some (.int s0)] []) rfl ?_
  refine mk_cI ?_
  intro x13 h12
  refine mX_to 3 (k' := 6) (ls' := [some (.ref l0), some (.int l1), some (.int x11), some (.int (l3 + 1)), some (.int s0)]) (st' := []) (h' := h12) rfl ?_
  rfl
theorem D_X4_sum (d : Nat) (h : MH) (a0 : Nat) (a1 : Int32) : mE mtab (d + 1) 84 [.ref a0, .int a1] h = ck (kd h a0 = 5) (cI (mE mtab d 83 [.ref a0, .int a1] h) (fun x2 h1 => mX (mE mtab d) KX4_sum 6 [some (.ref a0), some (.int a1), some (.int x2), some (.int 0), none] [] h1)) := by
  refine mE_eq (q := (yX4_sum, cX4_sum, 5, (some .boolean), KX4_sum)) (C := KX4_sum) (ls := [some (.ref a0), some (.int a1), none, none, none]) rfl rfl rfl rfl ?_
  refine mX_to 2 (k' := 2) (ls' := [some (.ref a0), some (.int a1), none, none, none]) (st' := [.int a1, .ref a0]) (h' := h) rfl ?_
  refine mX_ckc (m := mcl (mE mtab d 83 [.ref a0, .int a1] h) 1 3 [some (.ref a0), some (.int a1), none, none, none] []) rfl ?_
  refine mk_cI ?_
  intro x2 h1
  refine mX_to 3 (k' := 6) (ls' := [some (.ref a0), some (.int a1), some (.int x2), some (.int 0), none]) (st' := []) (h' := h1) rfl ?_
  rfl
theorem D_X4_number (d : Nat) (h : MH) (a0 : Nat) (a1 : Nat) (a2 : Int32) (a3 : Int32) : mE mtab (d + 1) 85 [.ref a0, .ref a1, .int a2, .int a3] h = ck (kd h a0 = 5) (cI (mE mtab d 68 [.ref a0] h) (fun x2 h1 => (if x2 = 258 then ck (kd h1 a0 = 5) (ck (kd h1 (gR h1 a0 0) = 8) (ck (kd h1 a0 = 5) (ck ((kd h1 (gR h1 (gR h1 a0 0) 4) = 20 ∨ kd h1 (gR h1 (gR h1 a0 0) 4) = 24) ∧ ib (gI h1 a0 5) (ln h1 (gR h1 (gR h1 a0 0) 4))) (cI (mE mtab d 11 [.int (gI h1 (gR h1 (gR h1 a0 0) 4) (ix (gI h1 a0 5))), .int a2, .int a3] h1) (fun x4 h3 => (if x4 = 0 then ck (kd h3 a0 = 5) (cI (mE mtab d 69 [.ref a0, .int 2] h3) (fun x6 h5 => ck (mrt 1 x6) (some (.int x6, h5)))) else ck (kd h3 a0 = 5) (ck (kd h3 a0 = 5) (ck (kd h3 (gR h3 a0 0) = 8) (ck (kd h3 a0 = 5) (ck ((kd h3 (gR h3 (gR h3 a0 0) 4) = 20 ∨ kd h3 (gR h3 (gR h3 a0 0) 4) = 24) ∧ ib (gI h3 a0 5) (ln h3 (gR h3 (gR h3 a0 0) 4))) (ck (kd h3 a1 = 20 ∧ ib (gI h3 a0 6) (ln h3 a1)) (lt_ (sI h3 a1 (ix (gI h3 a0 6)) (gI h3 (gR h3 (gR h3 a0 0) 4) (ix (gI h3 a0 5)))) fun h7 => ck (kd h7 a0 = 5) (cV (mE mtab d 70 [.ref a0] h7) (fun h8 => some (.int 1, h8))))))))))))))) else ck (kd h1 a0 = 5) (cI (mE mtab d 69 [.ref a0, .int 1] h1) (fun x10 h9 => ck (mrt 1 x10) (some (.int x10, h9))))))) := by
  refine mE_eq (q := (yX4_number, cX4_number, 4, (some .boolean), KX4_number)) (C := KX4_number) (ls := [some (.ref a0), some (.ref a1), some (.int a2), some (.int a3)]) rfl rfl rfl rfl ?_
  refine mX_to 1 (k' := 1) (ls' := [some (.ref a0), some (.ref a1), some (.int a2), some (.int a3)]) (st' := [.ref a0]) (h' := h) rfl ?_
  refine mX_ckc (m := mcl (mE mtab d 68 [.ref a0] h) 1 2 [some (.ref a0), some (.ref a1), some (.int a2), some (.int a3)] []) rfl ?_
  refine mk_cI ?_
  intro x2 h1
  refine mX_to 1 (k' := 3) (ls' := [some (.ref a0), some (.ref a1), some (.int a2), some (.int a3)]) (st' := [.int 258, .int x2]) (h' := h1) rfl ?_
  refine mX_br (t := 8) (f := 4) (ls' := [some (.ref a0), some (.ref a1), some (.int a2), some (.int a3)]) (st' := []) (h' := h1) rfl ?_ ?_
  · refine mX_to 1 (k' := 9) (ls' := [some (.ref a0), some (.ref a1), some (.int a2), some (.int a3)]) (st' := [.ref a0]) (h' := h1) rfl ?_
    refine mX_ck (k' := 10) (ls' := [some (.ref a0), some (.ref a1), some (.int a2), some (.int a3)]) (st' := [.ref (gR h1 a0 0)]) (h' := h1) rfl ?_
    refine mX_ck (k' := 11) (ls' := [some (.ref a0), some (.ref a1), some (.int a2), some (.int a3)]) (st' := [.ref (gR h1 (gR h1 a0 0) 4)]) (h' := h1) rfl ?_
    refine mX_to 1 (k' := 12) (ls' := [some (.ref a0), some (.ref a1), some (.int a2), some (.int a3)]) (st' := [.ref a0, .ref (gR h1 (gR h1 a0 0) 4)]) (h' := h1) rfl ?_
    refine mX_ck (k' := 13) (ls' := [some (.ref a0), some (.ref a1), some (.int a2), some (.int a3)]) (st' := [.int (gI h1 a0 5), .ref (gR h1 (gR h1 a0 0) 4)]) (h' := h1) rfl ?_
    refine mX_ck (k' := 14) (ls' := [some (.ref a0), some (.ref a1), some (.int a2), some (.int a3)]) (st' := [.int (gI h1 (gR h1 (gR h1 a0 0) 4) (ix (gI h1 a0 5)))]) (h' := h1) rfl ?_
    refine mX_to 2 (k' := 16) (ls' := [some (.ref a0), some (.ref a1), some (.int a2), some (.int a3)]) (st' := [.int a3, .int a2, .int (gI h1 (gR h1 (gR h1 a0 0) 4) (ix (gI h1 a0 5)))]) (h' := h1) rfl ?_
    refine mX_cI (o := mE mtab d 11 [.int (gI h1 (gR h1 (gR h1 a0 0) 4) (ix (gI h1 a0 5))), .int a2, .int a3] h1) (k' := 17) (ls' := [some (.ref a0), some (.ref a1), some (.int a2), some (.int a3)]) (st' := []) rfl ?_
    intro x4 h3
    refine mX_br (t := 18) (f := 22) (ls' := [some (.ref a0), some (.ref a1), some (.int a2), some (.int a3)]) (st' := []) (h' := h3) rfl ?_ ?_
    · refine mX_to 2 (k' := 20) (ls' := [some (.ref a0), some (.ref a1), some (.int a2), some (.int a3)]) (st' := [.int 2, .ref a0]) (h' := h3) rfl ?_
      refine mX_ckc (m := mcl (mE mtab d 69 [.ref a0, .int 2] h3) 1 21 [some (.ref a0), some (.ref a1), some (.int a2), some (.int a3)] []) rfl ?_
      refine mk_cI ?_
      intro x6 h5
      exact mX_retc rfl
    · refine mX_to 2 (k' := 24) (ls' := [some (.ref a0), some (.ref a1), some (.int a2), some (.int a3)]) (st' := [.ref a0, .ref a1]) (h' := h3) rfl ?_
      refine mX_ck (k' := 25) (ls' := [some (.ref a0), some (.ref a1), some (.int a2), some (.int a3)]) (st' := [.int (gI h3 a0 6), .ref a1]) (h' := h3) rfl ?_
      refine mX_to 1 (k' := 26) (ls' := [some (.ref a0), some (.ref a1), some (.int a2), some (.int a3)]) (st' := [.ref a0, .int (gI h3 a0 6), .ref a1]) (h' := h3) rfl ?_
      refine mX_ck (k' := 27) (ls' := [some (.ref a0), some (.ref a1), some (.int a2), some (.int a3)]) (st' := [.ref (gR h3 a0 0), .int (gI h3 a0 6), .ref a1]) (h' := h3) rfl ?_
      refine mX_ck (k' := 28) (ls' := [some (.ref a0), some (.ref a1), some (.int a2), some (.int a3)]) (st' := [.ref (gR h3 (gR h3 a0 0) 4), .int (gI h3 a0 6), .ref a1]) (h' := h3) rfl ?_
      refine mX_to 1 (k' := 29) (ls' := [some (.ref a0), some (.ref a1), some (.int a2), some (.int a3)]) (st' := [.ref a0, .ref (gR h3 (gR h3 a0 0) 4), .int (gI h3 a0 6), .ref a1]) (h' := h3) rfl ?_
      refine mX_ck (k' := 30) (ls' := [some (.ref a0), some (.ref a1), some (.int a2), some (.int a3)]) (st' := [.int (gI h3 a0 5), .ref (gR h3 (gR h3 a0 0) 4), .int (gI h3 a0 6), .ref a1]) (h' := h3) rfl ?_
      refine mX_ck (k' := 31) (ls' := [some (.ref a0), some (.ref a1), some (.int a2), some (.int a3)]) (st' := [.int (gI h3 (gR h3 (gR h3 a0 0) 4) (ix (gI h3 a0 5))), .int (gI h3 a0 6), .ref a1]) (h' := h3) rfl ?_
      refine mX_ck (k' := 32) (ls' := [some (.ref a0), some (.ref a1), some (.int a2), some (.int a3)]) (st' := []) (h' := (sI h3 a1 (ix (gI h3 a0 6)) (gI h3 (gR h3 (gR h3 a0 0) 4) (ix (gI h3 a0 5))))) rfl ?_
      refine lt_gen (X := fun h7 : MH => mX (mE mtab d) KX4_number 32 [some (.ref a0), some (.ref a1), some (.int a2), some (.int a3)] [] h7) fun h7 => ?_
      refine mX_to 1 (k' := 33) (ls' := [some (.ref a0), some (.ref a1), some (.int a2), some (.int a3)]) (st' := [.ref a0]) (h' := h7) rfl ?_
      refine mX_ckc (m := mcl (mE mtab d 70 [.ref a0] h7) 0 34 [some (.ref a0), some (.ref a1), some (.int a2), some (.int a3)] []) rfl ?_
      refine mk_cV ?_
      intro h8
      refine mX_to 1 (k' := 35) (ls' := [some (.ref a0), some (.ref a1), some (.int a2), some (.int a3)]) (st' := [.int 1]) (h' := h8) rfl ?_
      exact mX_retb (by decide) rfl
  · refine mX_to 2 (k' := 6) (ls' := [some (.ref a0), some (.ref a1), some (.int a2), some (.int a3)]) (st' := [.int 1, .ref a0]) (h' := h1) rfl ?_
    refine mX_ckc (m := mcl (mE mtab d 69 [.ref a0, .int 1] h1) 1 7 [some (.ref a0), some (.ref a1), some (.int a2), some (.int a3)] []) rfl ?_
    refine mk_cI ?_
    intro x10 h9
    exact mX_retc rfl
theorem D_X4_placed (d : Nat) (h : MH) (a0 : Nat) : mE mtab (d + 1) 86 [.ref a0] h = ck (kd h a0 = 5) (cI (mE mtab d 74 [.ref a0, .int 314] h) (fun x2 h1 => (if x2 = 0 then some (.int 0, h1) else ck (kd h1 a0 = 5) (ck (kd h1 a0 = 5) (cI (mE mtab d 85 [.ref a0, .ref (gR h1 a0 3), .int 0, .int 8] h1) (fun x4 h3 => (if x4 = 0 then some (.int 0, h3) else some (.int 1, h3)))))))) := by
  refine mE_eq (q := (yX4_placed, cX4_placed, 1, (some .boolean), KX4_placed)) (C := KX4_placed) (ls := [some (.ref a0)]) rfl rfl rfl rfl ?_
  refine mX_to 2 (k' := 2) (ls' := [some (.ref a0)]) (st' := [.int 314, .ref a0]) (h' := h) rfl ?_
  refine mX_ckc (m := mcl (mE mtab d 74 [.ref a0, .int 314] h) 1 3 [some (.ref a0)] []) rfl ?_
  refine mk_cI ?_
  intro x2 h1
  refine mX_br (t := 13) (f := 4) (ls' := [some (.ref a0)]) (st' := []) (h' := h1) rfl ?_ ?_
  · refine mX_to 1 (k' := 14) (ls' := [some (.ref a0)]) (st' := [.int 0]) (h' := h1) rfl ?_
    exact mX_retb (by decide) rfl
  · refine mX_to 2 (k' := 6) (ls' := [some (.ref a0)]) (st' := [.ref a0, .ref a0]) (h' := h1) rfl ?_
    refine mX_ck (k' := 7) (ls' := [some (.ref a0)]) (st' := [.ref (gR h1 a0 3), .ref a0]) (h' := h1) rfl ?_
    refine mX_to 2 (k' := 9) (ls' := [some (.ref a0)]) (st' := [.int 8, .int 0, .ref (gR h1 a0 3), .ref a0]) (h' := h1) rfl ?_
    refine mX_ckc (m := mcl (mE mtab d 85 [.ref a0, .ref (gR h1 a0 3), .int 0, .int 8] h1) 1 10 [some (.ref a0)] []) rfl ?_
    refine mk_cI ?_
    intro x4 h3
    refine mX_br (t := 13) (f := 11) (ls' := [some (.ref a0)]) (st' := []) (h' := h3) rfl ?_ ?_
    · refine mX_to 1 (k' := 14) (ls' := [some (.ref a0)]) (st' := [.int 0]) (h' := h3) rfl ?_
      exact mX_retb (by decide) rfl
    · refine mX_to 2 (k' := 14) (ls' := [some (.ref a0)]) (st' := [.int 1]) (h' := h3) rfl ?_
      exact mX_retb (by decide) rfl
theorem D_X4_numbers (d : Nat) (h : MH) (a0 : Nat) (a1 : Int32) : mE mtab (d + 1) 87 [.ref a0, .int a1] h = (if a1 = 302 then ck (kd h a0 = 5) (ck (kd h a0 = 5) (cI (mE mtab d 85 [.ref a0, .ref (gR h a0 2), .int 1, .int 9] h) (fun x2 h1 => (if x2 = 0 then some (.int 0, h1) else ck (kd h1 a0 = 5) (cI (mE mtab d 86 [.ref a0] h1) (fun x4 h3 => (if x4 = 0 then some (.int 0, h3) else some (.int 1, h3)))))))) else (if a1 = 303 then ck (kd h a0 = 5) (ck (kd h a0 = 5) (cI (mE mtab d 85 [.ref a0, .ref (gR h a0 2), .int 0, .int 3] h) (fun x6 h5 => (if x6 = 0 then some (.int 0, h5) else ck (kd h5 a0 = 5) (cI (mE mtab d 86 [.ref a0] h5) (fun x8 h7 => (if x8 = 0 then some (.int 0, h7) else some (.int 1, h7)))))))) else (if a1 = 304 then ck (kd h a0 = 5) (ck (kd h a0 = 5) (cI (mE mtab d 85 [.ref a0, .ref (gR h a0 2), .int 0, .int 3] h) (fun x10 h9 => ck (mrt 1 x10) (some (.int x10, h9))))) else (if a1 = 305 then ck (kd h a0 = 5) (ck (kd h a0 = 5) (cI (mE mtab d 85 [.ref a0, .ref (gR h a0 2), .int 0, .int 3] h) (fun x12 h11 => ck (mrt 1 x12) (some (.int x12, h11))))) else (if a1 = 306 then ck (kd h a0 = 5) (ck (kd h a0 = 5) (cI (mE mtab d 85 [.ref a0, .ref (gR h a0 2), .int 1, .int 9] h) (fun x14 h13 => (if x14 = 0 then some (.int 0, h13) else ck (kd h13 a0 = 5) (cI (mE mtab d 86 [.ref a0] h13) (fun x16 h15 => (if x16 = 0 then some (.int 0, h15) else some (.int 1, h15)))))))) else (if a1 = 307 then ck (kd h a0 = 5) (ck (kd h a0 = 5) (cI (mE mtab d 85 [.ref a0, .ref (gR h a0 2), .int 1, .int 60] h) (fun x18 h17 => ck (mrt 1 x18) (some (.int x18, h17))))) else ck (kd h a0 = 5) (ck (kd h a0 = 5) (cI (mE mtab d 85 [.ref a0, .ref (gR h a0 2), .int 0, .int 3] h) (fun x20 h19 => ck (mrt 1 x20) (some (.int x20, h19))))))))))) := by
  refine mE_eq (q := (yX4_numbers, cX4_numbers, 2, (some .boolean), KX4_numbers)) (C := KX4_numbers) (ls := [some (.ref a0), some (.int a1)]) rfl rfl rfl rfl ?_
  refine mX_to 1 (k' := 1) (ls' := [some (.ref a0), some (.int a1)]) (st' := [.int a1]) (h' := h) rfl ?_
  refine mX_sw (x := a1) (t := 51) (sw := [(302, 2), (303, 16), (304, 51), (305, 51), (306, 30), (307, 44)]) (ls' := [some (.ref a0), some (.int a1)]) (st' := []) (h' := h) rfl ?_
  refine msw_cons ?_ ?_
  · refine mX_to 2 (k' := 4) (ls' := [some (.ref a0), some (.int a1)]) (st' := [.ref a0, .ref a0]) (h' := h) rfl ?_
    refine mX_ck (k' := 5) (ls' := [some (.ref a0), some (.int a1)]) (st' := [.ref (gR h a0 2), .ref a0]) (h' := h) rfl ?_
    refine mX_to 2 (k' := 7) (ls' := [some (.ref a0), some (.int a1)]) (st' := [.int 9, .int 1, .ref (gR h a0 2), .ref a0]) (h' := h) rfl ?_
    refine mX_ckc (m := mcl (mE mtab d 85 [.ref a0, .ref (gR h a0 2), .int 1, .int 9] h) 1 8 [some (.ref a0), some (.int a1)] []) rfl ?_
    refine mk_cI ?_
    intro x2 h1
    refine mX_br (t := 14) (f := 9) (ls' := [some (.ref a0), some (.int a1)]) (st' := []) (h' := h1) rfl ?_ ?_
    · refine mX_to 1 (k' := 15) (ls' := [some (.ref a0), some (.int a1)]) (st' := [.int 0]) (h' := h1) rfl ?_
      exact mX_retb (by decide) rfl
    · refine mX_to 1 (k' := 10) (ls' := [some (.ref a0), some (.int a1)]) (st' := [.ref a0]) (h' := h1) rfl ?_
      refine mX_ckc (m := mcl (mE mtab d 86 [.ref a0] h1) 1 11 [some (.ref a0), some (.int a1)] []) rfl ?_
      refine mk_cI ?_
      intro x4 h3
      refine mX_br (t := 14) (f := 12) (ls' := [some (.ref a0), some (.int a1)]) (st' := []) (h' := h3) rfl ?_ ?_
      · refine mX_to 1 (k' := 15) (ls' := [some (.ref a0), some (.int a1)]) (st' := [.int 0]) (h' := h3) rfl ?_
        exact mX_retb (by decide) rfl
      · refine mX_to 2 (k' := 15) (ls' := [some (.ref a0), some (.int a1)]) (st' := [.int 1]) (h' := h3) rfl ?_
        exact mX_retb (by decide) rfl
  refine msw_cons ?_ ?_
  · refine mX_to 2 (k' := 18) (ls' := [some (.ref a0), some (.int a1)]) (st' := [.ref a0, .ref a0]) (h' := h) rfl ?_
    refine mX_ck (k' := 19) (ls' := [some (.ref a0), some (.int a1)]) (st' := [.ref (gR h a0 2), .ref a0]) (h' := h) rfl ?_
    refine mX_to 2 (k' := 21) (ls' := [some (.ref a0), some (.int a1)]) (st' := [.int 3, .int 0, .ref (gR h a0 2), .ref a0]) (h' := h) rfl ?_
    refine mX_ckc (m := mcl (mE mtab d 85 [.ref a0, .ref (gR h a0 2), .int 0, .int 3] h) 1 22 [some (.ref a0), some (.int a1)] []) rfl ?_
    refine mk_cI ?_
    intro x6 h5
    refine mX_br (t := 28) (f := 23) (ls' := [some (.ref a0), some (.int a1)]) (st' := []) (h' := h5) rfl ?_ ?_
    · refine mX_to 1 (k' := 29) (ls' := [some (.ref a0), some (.int a1)]) (st' := [.int 0]) (h' := h5) rfl ?_
      exact mX_retb (by decide) rfl
    · refine mX_to 1 (k' := 24) (ls' := [some (.ref a0), some (.int a1)]) (st' := [.ref a0]) (h' := h5) rfl ?_
      refine mX_ckc (m := mcl (mE mtab d 86 [.ref a0] h5) 1 25 [some (.ref a0), some (.int a1)] []) rfl ?_
      refine mk_cI ?_
      intro x8 h7
      refine mX_br (t := 28) (f := 26) (ls' := [some (.ref a0), some (.int a1)]) (st' := []) (h' := h7) rfl ?_ ?_
      · refine mX_to 1 (k' := 29) (ls' := [some (.ref a0), some (.int a1)]) (st' := [.int 0]) (h' := h7) rfl ?_
        exact mX_retb (by decide) rfl
      · refine mX_to 2 (k' := 29) (ls' := [some (.ref a0), some (.int a1)]) (st' := [.int 1]) (h' := h7) rfl ?_
        exact mX_retb (by decide) rfl
  refine msw_cons ?_ ?_
  · refine mX_to 2 (k' := 53) (ls' := [some (.ref a0), some (.int a1)]) (st' := [.ref a0, .ref a0]) (h' := h) rfl ?_
    refine mX_ck (k' := 54) (ls' := [some (.ref a0), some (.int a1)]) (st' := [.ref (gR h a0 2), .ref a0]) (h' := h) rfl ?_
    refine mX_to 2 (k' := 56) (ls' := [some (.ref a0), some (.int a1)]) (st' := [.int 3, .int 0, .ref (gR h a0 2), .ref a0]) (h' := h) rfl ?_
    refine mX_ckc (m := mcl (mE mtab d 85 [.ref a0, .ref (gR h a0 2), .int 0, .int 3] h) 1 57 [some (.ref a0), some (.int a1)] []) rfl ?_
    refine mk_cI ?_
    intro x10 h9
    exact mX_retc rfl
  refine msw_cons ?_ ?_
  · refine mX_to 2 (k' := 53) (ls' := [some (.ref a0), some (.int a1)]) (st' := [.ref a0, .ref a0]) (h' := h) rfl ?_
    refine mX_ck (k' := 54) (ls' := [some (.ref a0), some (.int a1)]) (st' := [.ref (gR h a0 2), .ref a0]) (h' := h) rfl ?_
    refine mX_to 2 (k' := 56) (ls' := [some (.ref a0), some (.int a1)]) (st' := [.int 3, .int 0, .ref (gR h a0 2), .ref a0]) (h' := h) rfl ?_
    refine mX_ckc (m := mcl (mE mtab d 85 [.ref a0, .ref (gR h a0 2), .int 0, .int 3] h) 1 57 [some (.ref a0), some (.int a1)] []) rfl ?_
    refine mk_cI ?_
    intro x12 h11
    exact mX_retc rfl
  refine msw_cons ?_ ?_
  · refine mX_to 2 (k' := 32) (ls' := [some (.ref a0), some (.int a1)]) (st' := [.ref a0, .ref a0]) (h' := h) rfl ?_
    refine mX_ck (k' := 33) (ls' := [some (.ref a0), some (.int a1)]) (st' := [.ref (gR h a0 2), .ref a0]) (h' := h) rfl ?_
    refine mX_to 2 (k' := 35) (ls' := [some (.ref a0), some (.int a1)]) (st' := [.int 9, .int 1, .ref (gR h a0 2), .ref a0]) (h' := h) rfl ?_
    refine mX_ckc (m := mcl (mE mtab d 85 [.ref a0, .ref (gR h a0 2), .int 1, .int 9] h) 1 36 [some (.ref a0), some (.int a1)] []) rfl ?_
    refine mk_cI ?_
    intro x14 h13
    refine mX_br (t := 42) (f := 37) (ls' := [some (.ref a0), some (.int a1)]) (st' := []) (h' := h13) rfl ?_ ?_
    · refine mX_to 1 (k' := 43) (ls' := [some (.ref a0), some (.int a1)]) (st' := [.int 0]) (h' := h13) rfl ?_
      exact mX_retb (by decide) rfl
    · refine mX_to 1 (k' := 38) (ls' := [some (.ref a0), some (.int a1)]) (st' := [.ref a0]) (h' := h13) rfl ?_
      refine mX_ckc (m := mcl (mE mtab d 86 [.ref a0] h13) 1 39 [some (.ref a0), some (.int a1)] []) rfl ?_
      refine mk_cI ?_
      intro x16 h15
      refine mX_br (t := 42) (f := 40) (ls' := [some (.ref a0), some (.int a1)]) (st' := []) (h' := h15) rfl ?_ ?_
      · refine mX_to 1 (k' := 43) (ls' := [some (.ref a0), some (.int a1)]) (st' := [.int 0]) (h' := h15) rfl ?_
        exact mX_retb (by decide) rfl
      · refine mX_to 2 (k' := 43) (ls' := [some (.ref a0), some (.int a1)]) (st' := [.int 1]) (h' := h15) rfl ?_
        exact mX_retb (by decide) rfl
  refine msw_cons ?_ ?_
  · refine mX_to 2 (k' := 46) (ls' := [some (.ref a0), some (.int a1)]) (st' := [.ref a0, .ref a0]) (h' := h) rfl ?_
    refine mX_ck (k' := 47) (ls' := [some (.ref a0), some (.int a1)]) (st' := [.ref (gR h a0 2), .ref a0]) (h' := h) rfl ?_
    refine mX_to 2 (k' := 49) (ls' := [some (.ref a0), some (.int a1)]) (st' := [.int 60, .int 1, .ref (gR h a0 2), .ref a0]) (h' := h) rfl ?_
    refine mX_ckc (m := mcl (mE mtab d 85 [.ref a0, .ref (gR h a0 2), .int 1, .int 60] h) 1 50 [some (.ref a0), some (.int a1)] []) rfl ?_
    refine mk_cI ?_
    intro x18 h17
    exact mX_retc rfl
  refine msw_nil ?_
  refine mX_to 2 (k' := 53) (ls' := [some (.ref a0), some (.int a1)]) (st' := [.ref a0, .ref a0]) (h' := h) rfl ?_
  refine mX_ck (k' := 54) (ls' := [some (.ref a0), some (.int a1)]) (st' := [.ref (gR h a0 2), .ref a0]) (h' := h) rfl ?_
  refine mX_to 2 (k' := 56) (ls' := [some (.ref a0), some (.int a1)]) (st' := [.int 3, .int 0, .ref (gR h a0 2), .ref a0]) (h' := h) rfl ?_
  refine mX_ckc (m := mcl (mE mtab d 85 [.ref a0, .ref (gR h a0 2), .int 0, .int 3] h) 1 57 [some (.ref a0), some (.int a1)] []) rfl ?_
  refine mk_cI ?_
  intro x20 h19
  exact mX_retc rfl
theorem D_J7_copyOf_59c91 (d : Nat) (h : MH) (a0 : Nat) (a1 : Int32) : mE mtab (d + 1) 88 [.ref a0, .int a1] h = ck (20 ≤ kd h a0 ∧ ¬ kd h a0 = 25 ∧ kd h a0 ≤ 26) ((if a1 = (nI (ln h a0)) then ck (kd h a0 = 20) (lt_ (rI (mA h 20 (ln h a0)) (mN h) (gI h a0)) fun h1 => ck (kd h1 (mN h) = 20) (some (.ref (mN h), h1))) else ck (¬ a1 < 0 ∧ ix a1 ≤ 1000000) (lt_ (mA h 20 (ix a1)) fun h2 => lt_ (mN h) fun v3 => ck (20 ≤ kd h2 a0 ∧ ¬ kd h2 a0 = 25 ∧ kd h2 a0 ≤ 26) (ck (kd h2 a0 = 20 ∧ kd h2 v3 = 20 ∧ ¬ (0 : Int32) < 0 ∧ ¬ (0 : Int32) < 0 ∧ ¬ (jmin (nI (ln h2 a0)) a1) < 0 ∧ ix (0 : Int32) + ix (jmin (nI (ln h2 a0)) a1) ≤ ln h2 a0 ∧ ix (0 : Int32) + ix (jmin (nI (ln h2 a0)) a1) ≤ ln h2 v3) (lt_ (rI h2 v3 (va_cpy (gI h2 a0) (gI h2 v3) (ix (0 : Int32)) (ix (0 : Int32)) (ix (jmin (nI (ln h2 a0)) a1)))) fun h4 => some (.ref v3, h4)))))) := by
  refine mE_eq (q := (yJ7_copyOf_59c91, cJ7_copyOf_59c91, 3, (some (.array .int)), KJ7_copyOf_59c91)) (C := KJ7_copyOf_59c91) (ls := [some (.ref a0), some (.int a1), none]) rfl rfl rfl rfl ?_
  refine mX_to 2 (k' := 2) (ls' := [some (.ref a0), some (.int a1), none]) (st' := [.ref a0, .int a1]) (h' := h) rfl ?_
  refine mX_ck (k' := 3) (ls' := [some (.ref a0), some (.int a1), none]) (st' := [.int (nI (ln h a0)), .int a1]) (h' := h) rfl ?_
  refine mX_br (t := 4) (f := 8) (ls' := [some (.ref a0), some (.int a1), none]) (st' := []) (h' := h) rfl ?_ ?_
  · refine mX_to 1 (k' := 5) (ls' := [some (.ref a0), some (.int a1), none]) (st' := [.ref a0]) (h' := h) rfl ?_
    refine mX_ck (k' := 6) (ls' := [some (.ref a0), some (.int a1), none]) (st' := [.ref (mN h)]) (h' := (rI (mA h 20 (ln h a0)) (mN h) (gI h a0))) rfl ?_
    refine lt_gen (X := fun h1 : MH => mX (mE mtab d) KJ7_copyOf_59c91 6 [some (.ref a0), some (.int a1), none] [.ref (mN h)] h1) fun h1 => ?_
    refine mX_ck (k' := 7) (ls' := [some (.ref a0), some (.int a1), none]) (st' := [.ref (mN h)]) (h' := h1) rfl ?_
    exact mX_ret rfl
  · refine mX_to 1 (k' := 9) (ls' := [some (.ref a0), some (.int a1), none]) (st' := [.int a1]) (h' := h) rfl ?_
    refine mX_ck (k' := 10) (ls' := [some (.ref a0), some (.int a1), none]) (st' := [.ref (mN h)]) (h' := (mA h 20 (ix a1))) rfl ?_
    refine lt_gen (X := fun h2 : MH => mX (mE mtab d) KJ7_copyOf_59c91 10 [some (.ref a0), some (.int a1), none] [.ref (mN h)] h2) fun h2 => ?_
    refine lt_gen (X := fun v3 : Nat => mX (mE mtab d) KJ7_copyOf_59c91 10 [some (.ref a0), some (.int a1), none] [.ref v3] h2) fun v3 => ?_
    refine mX_to 6 (k' := 16) (ls' := [some (.ref a0), some (.int a1), some (.ref v3)]) (st' := [.ref a0, .int 0, .ref v3, .int 0, .ref a0]) (h' := h2) rfl ?_
    refine mX_ck (k' := 17) (ls' := [some (.ref a0), some (.int a1), some (.ref v3)]) (st' := [.int (nI (ln h2 a0)), .int 0, .ref v3, .int 0, .ref a0]) (h' := h2) rfl ?_
    refine mX_to 2 (k' := 19) (ls' := [some (.ref a0), some (.int a1), some (.ref v3)]) (st' := [.int (jmin (nI (ln h2 a0)) a1), .int 0, .ref v3, .int 0, .ref a0]) (h' := h2) rfl ?_
    refine mX_ck (k' := 20) (ls' := [some (.ref a0), some (.int a1), some (.ref v3)]) (st' := []) (h' := (rI h2 v3 (va_cpy (gI h2 a0) (gI h2 v3) (ix (0 : Int32)) (ix (0 : Int32)) (ix (jmin (nI (ln h2 a0)) a1))))) rfl ?_
    refine lt_gen (X := fun h4 : MH => mX (mE mtab d) KJ7_copyOf_59c91 20 [some (.ref a0), some (.int a1), some (.ref v3)] [] h4) fun h4 => ?_
    refine mX_to 1 (k' := 21) (ls' := [some (.ref a0), some (.int a1), some (.ref v3)]) (st' := [.ref v3]) (h' := h4) rfl ?_
    exact mX_ret rfl
theorem D_X3_init (d : Nat) (h : MH) (a0 : Nat) (a1 : Nat) : mE mtab (d + 1) 89 [.ref a0, .ref a1] h = ck (¬ a0 = 0) (ck (¬ (64 : Int32) < 0 ∧ ix (64 : Int32) ≤ 1000000) (lt_ (mA h 20 (ix (64 : Int32))) fun h1 => ck (kd h1 a0 = 4) (lt_ (sR h1 a0 1 (mN h)) fun h2 => ck (kd h2 a0 = 4) (lt_ (sR h2 a0 0 a1) fun h3 => some (.int 0, h3))))) := by
  refine mE_eq (q := (yX3_init, cX3_init, 2, none, KX3_init)) (C := KX3_init) (ls := [some (.ref a0), some (.ref a1)]) rfl rfl rfl rfl ?_
  refine mX_to 1 (k' := 1) (ls' := [some (.ref a0), some (.ref a1)]) (st' := [.ref a0]) (h' := h) rfl ?_
  refine mX_ck (k' := 2) (ls' := [some (.ref a0), some (.ref a1)]) (st' := []) (h' := h) rfl ?_
  refine mX_to 2 (k' := 4) (ls' := [some (.ref a0), some (.ref a1)]) (st' := [.int 64, .ref a0]) (h' := h) rfl ?_
  refine mX_ck (k' := 5) (ls' := [some (.ref a0), some (.ref a1)]) (st' := [.ref (mN h), .ref a0]) (h' := (mA h 20 (ix (64 : Int32)))) rfl ?_
  refine lt_gen (X := fun h1 : MH => mX (mE mtab d) KX3_init 5 [some (.ref a0), some (.ref a1)] [.ref (mN h), .ref a0] h1) fun h1 => ?_
  refine mX_ck (k' := 6) (ls' := [some (.ref a0), some (.ref a1)]) (st' := []) (h' := (sR h1 a0 1 (mN h))) rfl ?_
  refine lt_gen (X := fun h2 : MH => mX (mE mtab d) KX3_init 6 [some (.ref a0), some (.ref a1)] [] h2) fun h2 => ?_
  refine mX_to 2 (k' := 8) (ls' := [some (.ref a0), some (.ref a1)]) (st' := [.ref a1, .ref a0]) (h' := h2) rfl ?_
  refine mX_ck (k' := 9) (ls' := [some (.ref a0), some (.ref a1)]) (st' := []) (h' := (sR h2 a0 0 a1)) rfl ?_
  refine lt_gen (X := fun h3 : MH => mX (mE mtab d) KX3_init 9 [some (.ref a0), some (.ref a1)] [] h3) fun h3 => ?_
  exact mX_ret rfl
theorem D_X4_keepLaw (d : Nat) (h : MH) (a0 : Nat) (a1 : Int32) : mE mtab (d + 1) 90 [.ref a0, .int a1] h = (if a1 = 300 then lt_ (mA h 4 2) fun h1 => ck (kd h1 a0 = 5) (ck (kd h1 a0 = 5) (cR (mE mtab d 88 [.ref (gR h1 a0 4), .int (gI h1 a0 7)] h1) (fun x3 h2 => ck (kd h2 (mN h) = 4) (cV (mE mtab d 89 [.ref (mN h), .ref x3] h2) (fun h4 => ck (kd h4 a0 = 5) (lt_ (sR h4 a0 9 (mN h)) fun h5 => some (.int 0, h5))))))) else (if a1 = 301 then lt_ (mA h 4 2) fun h6 => ck (kd h6 a0 = 5) (ck (kd h6 a0 = 5) (cR (mE mtab d 88 [.ref (gR h6 a0 4), .int (gI h6 a0 7)] h6) (fun x8 h7 => ck (kd h7 (mN h) = 4) (cV (mE mtab d 89 [.ref (mN h), .ref x8] h7) (fun h9 => ck (kd h9 a0 = 5) (lt_ (sR h9 a0 10 (mN h)) fun h10 => some (.int 0, h10))))))) else some (.int 0, h))) := by
  refine mE_eq (q := (yX4_keepLaw, cX4_keepLaw, 2, none, KX4_keepLaw)) (C := KX4_keepLaw) (ls := [some (.ref a0), some (.int a1)]) rfl rfl rfl rfl ?_
  refine mX_to 2 (k' := 2) (ls' := [some (.ref a0), some (.int a1)]) (st' := [.int 300, .int a1]) (h' := h) rfl ?_
  refine mX_br (t := 3) (f := 14) (ls' := [some (.ref a0), some (.int a1)]) (st' := []) (h' := h) rfl ?_ ?_
  · refine mX_to 1 (k' := 4) (ls' := [some (.ref a0), some (.int a1)]) (st' := [.ref a0]) (h' := h) rfl ?_
    refine mX_to 1 (k' := 5) (ls' := [some (.ref a0), some (.int a1)]) (st' := [.ref (mN h), .ref a0]) (h' := (mA h 4 2)) rfl ?_
    refine lt_gen (X := fun h1 : MH => mX (mE mtab d) KX4_keepLaw 5 [some (.ref a0), some (.int a1)] [.ref (mN h), .ref a0] h1) fun h1 => ?_
    refine mX_to 2 (k' := 7) (ls' := [some (.ref a0), some (.int a1)]) (st' := [.ref a0, .ref (mN h), .ref (mN h), .ref a0]) (h' := h1) rfl ?_
    refine mX_ck (k' := 8) (ls' := [some (.ref a0), some (.int a1)]) (st' := [.ref (gR h1 a0 4), .ref (mN h), .ref (mN h), .ref a0]) (h' := h1) rfl ?_
    refine mX_to 1 (k' := 9) (ls' := [some (.ref a0), some (.int a1)]) (st' := [.ref a0, .ref (gR h1 a0 4), .ref (mN h), .ref (mN h), .ref a0]) (h' := h1) rfl ?_
    refine mX_ck (k' := 10) (ls' := [some (.ref a0), some (.int a1)]) (st' := [.int (gI h1 a0 7), .ref (gR h1 a0 4), .ref (mN h), .ref (mN h), .ref a0]) (h' := h1) rfl ?_
    refine mX_cR (o := mE mtab d 88 [.ref (gR h1 a0 4), .int (gI h1 a0 7)] h1) (k' := 11) (ls' := [some (.ref a0), some (.int a1)]) (st' := [.ref (mN h), .ref (mN h), .ref a0]) rfl ?_
    intro x3 h2
    refine mX_ckc (m := mcl (mE mtab d 89 [.ref (mN h), .ref x3] h2) 0 12 [some (.ref a0), some (.int a1)] [.ref (mN h), .ref a0]) rfl ?_
    refine mk_cV ?_
    intro h4
    refine mX_ck (k' := 13) (ls' := [some (.ref a0), some (.int a1)]) (st' := []) (h' := (sR h4 a0 9 (mN h))) rfl ?_
    refine lt_gen (X := fun h5 : MH => mX (mE mtab d) KX4_keepLaw 13 [some (.ref a0), some (.int a1)] [] h5) fun h5 => ?_
    refine mX_to 1 (k' := 27) (ls' := [some (.ref a0), some (.int a1)]) (st' := []) (h' := h5) rfl ?_
    exact mX_ret rfl
  · refine mX_to 2 (k' := 16) (ls' := [some (.ref a0), some (.int a1)]) (st' := [.int 301, .int a1]) (h' := h) rfl ?_
    refine mX_br (t := 17) (f := 27) (ls' := [some (.ref a0), some (.int a1)]) (st' := []) (h' := h) rfl ?_ ?_
    · refine mX_to 1 (k' := 18) (ls' := [some (.ref a0), some (.int a1)]) (st' := [.ref a0]) (h' := h) rfl ?_
      refine mX_to 1 (k' := 19) (ls' := [some (.ref a0), some (.int a1)]) (st' := [.ref (mN h), .ref a0]) (h' := (mA h 4 2)) rfl ?_
      refine lt_gen (X := fun h6 : MH => mX (mE mtab d) KX4_keepLaw 19 [some (.ref a0), some (.int a1)] [.ref (mN h), .ref a0] h6) fun h6 => ?_
      refine mX_to 2 (k' := 21) (ls' := [some (.ref a0), some (.int a1)]) (st' := [.ref a0, .ref (mN h), .ref (mN h), .ref a0]) (h' := h6) rfl ?_
      refine mX_ck (k' := 22) (ls' := [some (.ref a0), some (.int a1)]) (st' := [.ref (gR h6 a0 4), .ref (mN h), .ref (mN h), .ref a0]) (h' := h6) rfl ?_
      refine mX_to 1 (k' := 23) (ls' := [some (.ref a0), some (.int a1)]) (st' := [.ref a0, .ref (gR h6 a0 4), .ref (mN h), .ref (mN h), .ref a0]) (h' := h6) rfl ?_
      refine mX_ck (k' := 24) (ls' := [some (.ref a0), some (.int a1)]) (st' := [.int (gI h6 a0 7), .ref (gR h6 a0 4), .ref (mN h), .ref (mN h), .ref a0]) (h' := h6) rfl ?_
      refine mX_cR (o := mE mtab d 88 [.ref (gR h6 a0 4), .int (gI h6 a0 7)] h6) (k' := 25) (ls' := [some (.ref a0), some (.int a1)]) (st' := [.ref (mN h), .ref (mN h), .ref a0]) rfl ?_
      intro x8 h7
      refine mX_ckc (m := mcl (mE mtab d 89 [.ref (mN h), .ref x8] h7) 0 26 [some (.ref a0), some (.int a1)] [.ref (mN h), .ref a0]) rfl ?_
      refine mk_cV ?_
      intro h9
      refine mX_ck (k' := 27) (ls' := [some (.ref a0), some (.int a1)]) (st' := []) (h' := (sR h9 a0 10 (mN h))) rfl ?_
      refine lt_gen (X := fun h10 : MH => mX (mE mtab d) KX4_keepLaw 27 [some (.ref a0), some (.int a1)] [] h10) fun h10 => ?_
      exact mX_ret rfl
    · exact mX_ret rfl
theorem D_X4_clause_18 (d : Nat) (h : MH) (l0 : Nat) (l1 : Int32) : mX (mE mtab d) KX4_clause 18 [some (.ref l0), some (.int l1), none] [] h = (if l1 = 301 then ck (kd h l0 = 5) ((if (gR h l0 10) = 0 then mX (mE mtab d) KX4_clause 28 [some (.ref l0), some (.int l1), none] [] h else mX (mE mtab d) KX4_clause 24 [some (.ref l0), some (.int l1), none] [] h)) else mX (mE mtab d) KX4_clause 28 [some (.ref l0), some (.int l1), none] [] h) := by
  refine mX_to 2 (k' := 20) (ls' := [some (.ref l0), some (.int l1), none]) (st' := [.int 301, .int l1]) (h' := h) rfl ?_
  refine mX_br (t := 21) (f := 28) (ls' := [some (.ref l0), some (.int l1), none]) (st' := []) (h' := h) rfl ?_ ?_
  · refine mX_to 1 (k' := 22) (ls' := [some (.ref l0), some (.int l1), none]) (st' := [.ref l0]) (h' := h) rfl ?_
    refine mX_ck (k' := 23) (ls' := [some (.ref l0), some (.int l1), none]) (st' := [.ref (gR h l0 10)]) (h' := h) rfl ?_
    refine mX_br (t := 28) (f := 24) (ls' := [some (.ref l0), some (.int l1), none]) (st' := []) (h' := h) rfl ?_ ?_
    · rfl
    · rfl
  · rfl
theorem D_X4_clause_24 (d : Nat) (h : MH) (l0 : Nat) (l1 : Int32) : mX (mE mtab d) KX4_clause 24 [some (.ref l0), some (.int l1), none] [] h = ck (kd h l0 = 5) (cI (mE mtab d 69 [.ref l0, .int 4] h) (fun x8 h7 => ck (mrt 1 x8) (some (.int x8, h7)))) := by
  refine mX_to 2 (k' := 26) (ls' := [some (.ref l0), some (.int l1), none]) (st' := [.int 4, .ref l0]) (h' := h) rfl ?_
  refine mX_ckc (m := mcl (mE mtab d 69 [.ref l0, .int 4] h) 1 27 [some (.ref l0), some (.int l1), none] []) rfl ?_
  refine mk_cI ?_
  intro x8 h7
  exact mX_retc rfl
theorem D_X4_clause_28 (d : Nat) (h : MH) (l0 : Nat) (l1 : Int32) : mX (mE mtab d) KX4_clause 28 [some (.ref l0), some (.int l1), none] [] h = ck (kd h l0 = 5) ((if (gI h l0 6) < 24 then ck (kd h l0 = 5) (ck (kd h l0 = 5) (ck (kd h (gR h l0 1) = 20 ∧ ib (gI h l0 6) (ln h (gR h l0 1))) (lt_ (sI h (gR h l0 1) (ix (gI h l0 6)) l1) fun h9 => ck (kd h9 l0 = 5) (ck (kd h9 l0 = 5) (ck (kd h9 (gR h9 l0 2) = 20 ∧ ib (gI h9 l0 6) (ln h9 (gR h9 l0 2))) (lt_ (sI h9 (gR h9 l0 2) (ix (gI h9 l0 6)) 0) fun h10 => ck (kd h10 l0 = 5) (ck (kd h10 l0 = 5) (ck (kd h10 (gR h10 l0 3) = 20 ∧ ib (gI h10 l0 6) (ln h10 (gR h10 l0 3))) (lt_ (sI h10 (gR h10 l0 3) (ix (gI h10 l0 6)) 0) fun h11 => ck (kd h11 l0 = 5) (lt_ (sI h11 l0 7 0) fun h12 => (if l1 = 301 then mX (mE mtab d) KX4_clause 64 [some (.ref l0), some (.int l1), none] [.int 1, .ref l0] h12 else mX (mE mtab d) KX4_clause 64 [some (.ref l0), some (.int l1), none] [.int 0, .ref l0] h12))))))))))) else ck (kd h l0 = 5) (cI (mE mtab d 69 [.ref l0, .int 6] h) (fun x14 h13 => ck (mrt 1 x14) (some (.int x14, h13)))))) := by
  refine mX_to 1 (k' := 29) (ls' := [some (.ref l0), some (.int l1), none]) (st' := [.ref l0]) (h' := h) rfl ?_
  refine mX_ck (k' := 30) (ls' := [some (.ref l0), some (.int l1), none]) (st' := [.int (gI h l0 6)]) (h' := h) rfl ?_
  refine mX_to 1 (k' := 31) (ls' := [some (.ref l0), some (.int l1), none]) (st' := [.int 24, .int (gI h l0 6)]) (h' := h) rfl ?_
  refine mX_br (t := 36) (f := 32) (ls' := [some (.ref l0), some (.int l1), none]) (st' := []) (h' := h) rfl ?_ ?_
  · refine mX_to 1 (k' := 37) (ls' := [some (.ref l0), some (.int l1), none]) (st' := [.ref l0]) (h' := h) rfl ?_
    refine mX_ck (k' := 38) (ls' := [some (.ref l0), some (.int l1), none]) (st' := [.ref (gR h l0 1)]) (h' := h) rfl ?_
    refine mX_to 1 (k' := 39) (ls' := [some (.ref l0), some (.int l1), none]) (st' := [.ref l0, .ref (gR h l0 1)]) (h' := h) rfl ?_
    refine mX_ck (k' := 40) (ls' := [some (.ref l0), some (.int l1), none]) (st' := [.int (gI h l0 6), .ref (gR h l0 1)]) (h' := h) rfl ?_
    refine mX_to 1 (k' := 41) (ls' := [some (.ref l0), some (.int l1), none]) (st' := [.int l1, .int (gI h l0 6), .ref (gR h l0 1)]) (h' := h) rfl ?_
    refine mX_ck (k' := 42) (ls' := [some (.ref l0), some (.int l1), none]) (st' := []) (h' := (sI h (gR h l0 1) (ix (gI h l0 6)) l1)) rfl ?_
    refine lt_gen (X := fun h9 : MH => mX (mE mtab d) KX4_clause 42 [some (.ref l0), some (.int l1), none] [] h9) fun h9 => ?_
    refine mX_to 1 (k' := 43) (ls' := [some (.ref l0), some (.int l1), none]) (st' := [.ref l0]) (h' := h9) rfl ?_
    refine mX_ck (k' := 44) (ls' := [some (.ref l0), some (.int l1), none]) (st' := [.ref (gR h9 l0 2)]) (h' := h9) rfl ?_
    refine mX_to 1 (k' := 45) (ls' := [some (.ref l0), some (.int l1), none]) (st' := [.ref l0, .ref (gR h9 l0 2)]) (h' := h9) rfl ?_
    refine mX_ck (k' := 46) (ls' := [some (.ref l0), some (.int l1), none]) (st' := [.int (gI h9 l0 6), .ref (gR h9 l0 2)]) (h' := h9) rfl ?_
    refine mX_to 1 (k' := 47) (ls' := [some (.ref l0), some (.int l1), none]) (st' := [.int 0, .int (gI h9 l0 6), .ref (gR h9 l0 2)]) (h' := h9) rfl ?_
    refine mX_ck (k' := 48) (ls' := [some (.ref l0), some (.int l1), none]) (st' := []) (h' := (sI h9 (gR h9 l0 2) (ix (gI h9 l0 6)) 0)) rfl ?_
    refine lt_gen (X := fun h10 : MH => mX (mE mtab d) KX4_clause 48 [some (.ref l0), some (.int l1), none] [] h10) fun h10 => ?_
    refine mX_to 1 (k' := 49) (ls' := [some (.ref l0), some (.int l1), none]) (st' := [.ref l0]) (h' := h10) rfl ?_
    refine mX_ck (k' := 50) (ls' := [some (.ref l0), some (.int l1), none]) (st' := [.ref (gR h10 l0 3)]) (h' := h10) rfl ?_
    refine mX_to 1 (k' := 51) (ls' := [some (.ref l0), some (.int l1), none]) (st' := [.ref l0, .ref (gR h10 l0 3)]) (h' := h10) rfl ?_
    refine mX_ck (k' := 52) (ls' := [some (.ref l0), some (.int l1), none]) (st' := [.int (gI h10 l0 6), .ref (gR h10 l0 3)]) (h' := h10) rfl ?_
    refine mX_to 1 (k' := 53) (ls' := [some (.ref l0), some (.int l1), none]) (st' := [.int 0, .int (gI h10 l0 6), .ref (gR h10 l0 3)]) (h' := h10) rfl ?_
    refine mX_ck (k' := 54) (ls' := [some (.ref l0), some (.int l1), none]) (st' := []) (h' := (sI h10 (gR h10 l0 3) (ix (gI h10 l0 6)) 0)) rfl ?_
    refine lt_gen (X := fun h11 : MH => mX (mE mtab d) KX4_clause 54 [some (.ref l0), some (.int l1), none] [] h11) fun h11 => ?_
    refine mX_to 2 (k' := 56) (ls' := [some (.ref l0), some (.int l1), none]) (st' := [.int 0, .ref l0]) (h' := h11) rfl ?_
    refine mX_ck (k' := 57) (ls' := [some (.ref l0), some (.int l1), none]) (st' := []) (h' := (sI h11 l0 7 0)) rfl ?_
    refine lt_gen (X := fun h12 : MH => mX (mE mtab d) KX4_clause 57 [some (.ref l0), some (.int l1), none] [] h12) fun h12 => ?_
    refine mX_to 3 (k' := 60) (ls' := [some (.ref l0), some (.int l1), none]) (st' := [.int 301, .int l1, .ref l0]) (h' := h12) rfl ?_
    refine mX_br (t := 61) (f := 63) (ls' := [some (.ref l0), some (.int l1), none]) (st' := [.ref l0]) (h' := h12) rfl ?_ ?_
    · refine mX_to 2 (k' := 64) (ls' := [some (.ref l0), some (.int l1), none]) (st' := [.int 1, .ref l0]) (h' := h12) rfl ?_
      rfl
    · refine mX_to 1 (k' := 64) (ls' := [some (.ref l0), some (.int l1), none]) (st' := [.int 0, .ref l0]) (h' := h12) rfl ?_
      rfl
  · refine mX_to 2 (k' := 34) (ls' := [some (.ref l0), some (.int l1), none]) (st' := [.int 6, .ref l0]) (h' := h) rfl ?_
    refine mX_ckc (m := mcl (mE mtab d 69 [.ref l0, .int 6] h) 1 35 [some (.ref l0), some (.int l1), none] []) rfl ?_
    refine mk_cI ?_
    intro x14 h13
    exact mX_retc rfl
theorem D_X4_clause_64 (d : Nat) (h : MH) (l0 : Nat) (l1 : Int32) (s0 : Int32) (s1 : Nat) : mX (mE mtab d) KX4_clause 64 [some (.ref l0), some (.int l1), none] [.int s0, .ref s1] h = ck (kd h s1 = 5 ∧ (s0 = 0 ∨ s0 = 1)) (lt_ (sI h s1 8 s0) fun h15 => ck (kd h15 l0 = 5) (cV (mE mtab d 70 [.ref l0] h15) (fun h16 => (if l1 ≤ 301 then ck (kd h16 l0 = 5) (cI (mE mtab d 84 [.ref l0, .int 0] h16) (fun x18 h17 => mX (mE mtab d) KX4_clause 77 [some (.ref l0), some (.int l1), none] [.int x18] h17)) else ck (kd h16 l0 = 5) (cI (mE mtab d 87 [.ref l0, .int l1] h16) (fun x20 h19 => mX (mE mtab d) KX4_clause 77 [some (.ref l0), some (.int l1), none] [.int x20] h19)))))) := by
  refine mX_ck (k' := 65) (ls' := [some (.ref l0), some (.int l1), none]) (st' := []) (h' := (sI h s1 8 s0)) rfl ?_
  refine lt_gen (X := fun h15 : MH => mX (mE mtab d) KX4_clause 65 [some (.ref l0), some (.int l1), none] [] h15) fun h15 => ?_
  refine mX_to 1 (k' := 66) (ls' := [some (.ref l0), some (.int l1), none]) (st' := [.ref l0]) (h' := h15) rfl ?_
  refine mX_ckc (m := mcl (mE mtab d 70 [.ref l0] h15) 0 67 [some (.ref l0), some (.int l1), none] []) rfl ?_
  refine mk_cV ?_
  intro h16
  refine mX_to 2 (k' := 69) (ls' := [some (.ref l0), some (.int l1), none]) (st' := [.int 301, .int l1]) (h' := h16) rfl ?_
  refine mX_br (t := 70) (f := 74) (ls' := [some (.ref l0), some (.int l1), none]) (st' := []) (h' := h16) rfl ?_ ?_
  · refine mX_to 2 (k' := 72) (ls' := [some (.ref l0), some (.int l1), none]) (st' := [.int 0, .ref l0]) (h' := h16) rfl ?_
    refine mX_ckc (m := mcl (mE mtab d 84 [.ref l0, .int 0] h16) 1 73 [some (.ref l0), some (.int l1), none] []) rfl ?_
    refine mk_cI ?_
    intro x18 h17
    refine mX_to 1 (k' := 77) (ls' := [some (.ref l0), some (.int l1), none]) (st' := [.int x18]) (h' := h17) rfl ?_
    rfl
  · refine mX_to 2 (k' := 76) (ls' := [some (.ref l0), some (.int l1), none]) (st' := [.int l1, .ref l0]) (h' := h16) rfl ?_
    refine mX_ckc (m := mcl (mE mtab d 87 [.ref l0, .int l1] h16) 1 77 [some (.ref l0), some (.int l1), none] []) rfl ?_
    refine mk_cI ?_
    intro x20 h19
    rfl
theorem D_X4_clause_77 (d : Nat) (h : MH) (l0 : Nat) (l1 : Int32) (s0 : Int32) : mX (mE mtab d) KX4_clause 77 [some (.ref l0), some (.int l1), none] [.int s0] h = (if s0 = 0 then some (.int 0, h) else ck (kd h l0 = 5) (cI (mE mtab d 74 [.ref l0, .int 59] h) (fun x22 h21 => (if x22 = 0 then some (.int 0, h21) else ck (kd h21 l0 = 5) (cV (mE mtab d 90 [.ref l0, .int l1] h21) (fun h23 => ck (kd h23 l0 = 5) (ck (kd h23 l0 = 5) (lt_ (sI h23 l0 6 ((gI h23 l0 6) + 1)) fun h24 => some (.int 1, h24))))))))) := by
  refine mX_to 2 (k' := 79) (ls' := [some (.ref l0), some (.int l1), some (.int s0)]) (st' := [.int s0]) (h' := h) rfl ?_
  refine mX_br (t := 84) (f := 80) (ls' := [some (.ref l0), some (.int l1), some (.int s0)]) (st' := []) (h' := h) rfl ?_ ?_
  · refine mX_to 1 (k' := 85) (ls' := [some (.ref l0), some (.int l1), some (.int s0)]) (st' := [.int 0]) (h' := h) rfl ?_
    exact mX_retb (by decide) rfl
  · refine mX_to 2 (k' := 82) (ls' := [some (.ref l0), some (.int l1), some (.int s0)]) (st' := [.int 59, .ref l0]) (h' := h) rfl ?_
    refine mX_ckc (m := mcl (mE mtab d 74 [.ref l0, .int 59] h) 1 83 [some (.ref l0), some (.int l1), some (.int s0)] []) rfl ?_
    refine mk_cI ?_
    intro x22 h21
    refine mX_br (t := 84) (f := 86) (ls' := [some (.ref l0), some (.int l1), some (.int s0)]) (st' := []) (h' := h21) rfl ?_ ?_
    · refine mX_to 1 (k' := 85) (ls' := [some (.ref l0), some (.int l1), some (.int s0)]) (st' := [.int 0]) (h' := h21) rfl ?_
      exact mX_retb (by decide) rfl
    · refine mX_to 2 (k' := 88) (ls' := [some (.ref l0), some (.int l1), some (.int s0)]) (st' := [.int l1, .ref l0]) (h' := h21) rfl ?_
      refine mX_ckc (m := mcl (mE mtab d 90 [.ref l0, .int l1] h21) 0 89 [some (.ref l0), some (.int l1), some (.int s0)] []) rfl ?_
      refine mk_cV ?_
      intro h23
      refine mX_to 2 (k' := 91) (ls' := [some (.ref l0), some (.int l1), some (.int s0)]) (st' := [.ref l0, .ref l0]) (h' := h23) rfl ?_
      refine mX_ck (k' := 92) (ls' := [some (.ref l0), some (.int l1), some (.int s0)]) (st' := [.int (gI h23 l0 6), .ref l0]) (h' := h23) rfl ?_
      refine mX_to 2 (k' := 94) (ls' := [some (.ref l0), some (.int l1), some (.int s0)]) (st' := [.int ((gI h23 l0 6) + 1), .ref l0]) (h' := h23) rfl ?_
      refine mX_ck (k' := 95) (ls' := [some (.ref l0), some (.int l1), some (.int s0)]) (st' := []) (h' := (sI h23 l0 6 ((gI h23 l0 6) + 1))) rfl ?_
      refine lt_gen (X := fun h24 : MH => mX (mE mtab d) KX4_clause 95 [some (.ref l0), some (.int l1), some (.int s0)] [] h24) fun h24 => ?_
      refine mX_to 1 (k' := 96) (ls' := [some (.ref l0), some (.int l1), some (.int s0)]) (st' := [.int 1]) (h' := h24) rfl ?_
      exact mX_retb (by decide) rfl
theorem D_X4_clause (d : Nat) (h : MH) (a0 : Nat) : mE mtab (d + 1) 91 [.ref a0] h = ck (kd h a0 = 5) (cI (mE mtab d 68 [.ref a0] h) (fun x2 h1 => cI (mE mtab d 11 [.int x2, .int 300, .int 307] h1) (fun x4 h3 => (if x4 = 0 then ck (kd h3 a0 = 5) (cI (mE mtab d 69 [.ref a0, .int 1] h3) (fun x6 h5 => ck (mrt 1 x6) (some (.int x6, h5)))) else (if x2 = 300 then ck (kd h3 a0 = 5) ((if (gR h3 a0 9) = 0 then mX (mE mtab d) KX4_clause 18 [some (.ref a0), some (.int x2), none] [] h3 else mX (mE mtab d) KX4_clause 24 [some (.ref a0), some (.int x2), none] [] h3)) else mX (mE mtab d) KX4_clause 18 [some (.ref a0), some (.int x2), none] [] h3))))) := by
  refine mE_eq (q := (yX4_clause, cX4_clause, 3, (some .boolean), KX4_clause)) (C := KX4_clause) (ls := [some (.ref a0), none, none]) rfl rfl rfl rfl ?_
  refine mX_to 1 (k' := 1) (ls' := [some (.ref a0), none, none]) (st' := [.ref a0]) (h' := h) rfl ?_
  refine mX_ckc (m := mcl (mE mtab d 68 [.ref a0] h) 1 2 [some (.ref a0), none, none] []) rfl ?_
  refine mk_cI ?_
  intro x2 h1
  refine mX_to 4 (k' := 6) (ls' := [some (.ref a0), some (.int x2), none]) (st' := [.int 307, .int 300, .int x2]) (h' := h1) rfl ?_
  refine mX_cI (o := mE mtab d 11 [.int x2, .int 300, .int 307] h1) (k' := 7) (ls' := [some (.ref a0), some (.int x2), none]) (st' := []) rfl ?_
  intro x4 h3
  refine mX_br (t := 8) (f := 12) (ls' := [some (.ref a0), some (.int x2), none]) (st' := []) (h' := h3) rfl ?_ ?_
  · refine mX_to 2 (k' := 10) (ls' := [some (.ref a0), some (.int x2), none]) (st' := [.int 1, .ref a0]) (h' := h3) rfl ?_
    refine mX_ckc (m := mcl (mE mtab d 69 [.ref a0, .int 1] h3) 1 11 [some (.ref a0), some (.int x2), none] []) rfl ?_
    refine mk_cI ?_
    intro x6 h5
    exact mX_retc rfl
  · refine mX_to 2 (k' := 14) (ls' := [some (.ref a0), some (.int x2), none]) (st' := [.int 300, .int x2]) (h' := h3) rfl ?_
    refine mX_br (t := 15) (f := 18) (ls' := [some (.ref a0), some (.int x2), none]) (st' := []) (h' := h3) rfl ?_ ?_
    · refine mX_to 1 (k' := 16) (ls' := [some (.ref a0), some (.int x2), none]) (st' := [.ref a0]) (h' := h3) rfl ?_
      refine mX_ck (k' := 17) (ls' := [some (.ref a0), some (.int x2), none]) (st' := [.ref (gR h3 a0 9)]) (h' := h3) rfl ?_
      refine mX_br (t := 18) (f := 24) (ls' := [some (.ref a0), some (.int x2), none]) (st' := []) (h' := h3) rfl ?_ ?_
      · rfl
      · rfl
    · rfl
theorem D_X8_init (d : Nat) (h : MH) (a0 : Nat) (a1 : Nat) (a2 : Nat) (a3 : Nat) (a4 : Nat) (a5 : Nat) : mE mtab (d + 1) 92 [.ref a0, .ref a1, .ref a2, .ref a3, .ref a4, .ref a5] h = ck (¬ a0 = 0) (ck (kd h a0 = 9) (lt_ (sR h a0 0 a1) fun h1 => ck (kd h1 a0 = 9) (lt_ (sR h1 a0 1 a2) fun h2 => ck (kd h2 a0 = 9) (lt_ (sR h2 a0 2 a3) fun h3 => ck (kd h3 a0 = 9) (lt_ (sR h3 a0 3 a4) fun h4 => ck (kd h4 a0 = 9) (lt_ (sR h4 a0 4 a5) fun h5 => some (.int 0, h5))))))) := by
  refine mE_eq (q := (yX8_init, cX8_init, 6, none, KX8_init)) (C := KX8_init) (ls := [some (.ref a0), some (.ref a1), some (.ref a2), some (.ref a3), some (.ref a4), some (.ref a5)]) rfl rfl rfl rfl ?_
  refine mX_to 1 (k' := 1) (ls' := [some (.ref a0), some (.ref a1), some (.ref a2), some (.ref a3), some (.ref a4), some (.ref a5)]) (st' := [.ref a0]) (h' := h) rfl ?_
  refine mX_ck (k' := 2) (ls' := [some (.ref a0), some (.ref a1), some (.ref a2), some (.ref a3), some (.ref a4), some (.ref a5)]) (st' := []) (h' := h) rfl ?_
  refine mX_to 2 (k' := 4) (ls' := [some (.ref a0), some (.ref a1), some (.ref a2), some (.ref a3), some (.ref a4), some (.ref a5)]) (st' := [.ref a1, .ref a0]) (h' := h) rfl ?_
  refine mX_ck (k' := 5) (ls' := [some (.ref a0), some (.ref a1), some (.ref a2), some (.ref a3), some (.ref a4), some (.ref a5)]) (st' := []) (h' := (sR h a0 0 a1)) rfl ?_
  refine lt_gen (X := fun h1 : MH => mX (mE mtab d) KX8_init 5 [some (.ref a0), some (.ref a1), some (.ref a2), some (.ref a3), some (.ref a4), some (.ref a5)] [] h1) fun h1 => ?_
  refine mX_to 2 (k' := 7) (ls' := [some (.ref a0), some (.ref a1), some (.ref a2), some (.ref a3), some (.ref a4), some (.ref a5)]) (st' := [.ref a2, .ref a0]) (h' := h1) rfl ?_
  refine mX_ck (k' := 8) (ls' := [some (.ref a0), some (.ref a1), some (.ref a2), some (.ref a3), some (.ref a4), some (.ref a5)]) (st' := []) (h' := (sR h1 a0 1 a2)) rfl ?_
  refine lt_gen (X := fun h2 : MH => mX (mE mtab d) KX8_init 8 [some (.ref a0), some (.ref a1), some (.ref a2), some (.ref a3), some (.ref a4), some (.ref a5)] [] h2) fun h2 => ?_
  refine mX_to 2 (k' := 10) (ls' := [some (.ref a0), some (.ref a1), some (.ref a2), some (.ref a3), some (.ref a4), some (.ref a5)]) (st' := [.ref a3, .ref a0]) (h' := h2) rfl ?_
  refine mX_ck (k' := 11) (ls' := [some (.ref a0), some (.ref a1), some (.ref a2), some (.ref a3), some (.ref a4), some (.ref a5)]) (st' := []) (h' := (sR h2 a0 2 a3)) rfl ?_
  refine lt_gen (X := fun h3 : MH => mX (mE mtab d) KX8_init 11 [some (.ref a0), some (.ref a1), some (.ref a2), some (.ref a3), some (.ref a4), some (.ref a5)] [] h3) fun h3 => ?_
  refine mX_to 2 (k' := 13) (ls' := [some (.ref a0), some (.ref a1), some (.ref a2), some (.ref a3), some (.ref a4), some (.ref a5)]) (st' := [.ref a4, .ref a0]) (h' := h3) rfl ?_
  refine mX_ck (k' := 14) (ls' := [some (.ref a0), some (.ref a1), some (.ref a2), some (.ref a3), some (.ref a4), some (.ref a5)]) (st' := []) (h' := (sR h3 a0 3 a4)) rfl ?_
  refine lt_gen (X := fun h4 : MH => mX (mE mtab d) KX8_init 14 [some (.ref a0), some (.ref a1), some (.ref a2), some (.ref a3), some (.ref a4), some (.ref a5)] [] h4) fun h4 => ?_
  refine mX_to 2 (k' := 16) (ls' := [some (.ref a0), some (.ref a1), some (.ref a2), some (.ref a3), some (.ref a4), some (.ref a5)]) (st' := [.ref a5, .ref a0]) (h' := h4) rfl ?_
  refine mX_ck (k' := 17) (ls' := [some (.ref a0), some (.ref a1), some (.ref a2), some (.ref a3), some (.ref a4), some (.ref a5)]) (st' := []) (h' := (sR h4 a0 4 a5)) rfl ?_
  refine lt_gen (X := fun h5 : MH => mX (mE mtab d) KX8_init 17 [some (.ref a0), some (.ref a1), some (.ref a2), some (.ref a3), some (.ref a4), some (.ref a5)] [] h5) fun h5 => ?_
  exact mX_ret rfl
theorem D_X4_read_23 (d : Nat) (h : MH) (l0 : Nat) (l1 : Int32) : mX (mE mtab d) KX4_read 23 [some (.ref l0), some (.int l1)] [] h = (if l1 ≤ 24 then ck (kd h l0 = 5) (cI (mE mtab d 68 [.ref l0] h) (fun x9 h8 => (if x9 = 259 then mX (mE mtab d) KX4_read 37 [some (.ref l0), some (.int l1)] [] h8 else ck (kd h8 l0 = 5) (cI (mE mtab d 91 [.ref l0] h8) (fun x11 h10 => (if x11 = 0 then some (.ref 0, h10) else mX (mE mtab d) KX4_read 23 [some (.ref l0), some (.int (l1 + 1))] [] h10)))))) else mX (mE mtab d) KX4_read 37 [some (.ref l0), some (.int l1)] [] h) := by
  refine mX_to 2 (k' := 25) (ls' := [some (.ref l0), some (.int l1)]) (st' := [.int 24, .int l1]) (h' := h) rfl ?_
  refine mX_br (t := 26) (f := 37) (ls' := [some (.ref l0), some (.int l1)]) (st' := []) (h' := h) rfl ?_ ?_
  · refine mX_to 1 (k' := 27) (ls' := [some (.ref l0), some (.int l1)]) (st' := [.ref l0]) (h' := h) rfl ?_
    refine mX_ckc (m := mcl (mE mtab d 68 [.ref l0] h) 1 28 [some (.ref l0), some (.int l1)] []) rfl ?_
    refine mk_cI ?_
    intro x9 h8
    refine mX_to 1 (k' := 29) (ls' := [some (.ref l0), some (.int l1)]) (st' := [.int 259, .int x9]) (h' := h8) rfl ?_
    refine mX_br (t := 37) (f := 30) (ls' := [some (.ref l0), some (.int l1)]) (st' := []) (h' := h8) rfl ?_ ?_
    · rfl
    · refine mX_to 1 (k' := 31) (ls' := [some (.ref l0), some (.int l1)]) (st' := [.ref l0]) (h' := h8) rfl ?_
      refine mX_ckc (m := mcl (mE mtab d 91 [.ref l0] h8) 1 32 [some (.ref l0), some (.int l1)] []) rfl ?_
      refine mk_cI ?_
      intro x11 h10
      refine mX_br (t := 33) (f := 35) (ls' := [some (.ref l0), some (.int l1)]) (st' := []) (h' := h10) rfl ?_ ?_
      · refine mX_to 1 (k' := 34) (ls' := [some (.ref l0), some (.int l1)]) (st' := [.ref 0]) (h' := h10) rfl ?_
        exact mX_ret rfl
      · refine mX_to 2 (k' := 23) (ls' := [some (.ref l0), some (.int (l1 + 1))]) (st' := []) (h' := h10) rfl ?_
        rfl
  · rfl
theorem D_X4_read_37 (d : Nat) (h : MH) (l0 : Nat) (l1 : Int32) : mX (mE mtab d) KX4_read 37 [some (.ref l0), some (.int l1)] [] h = lt_ (mA h 9 5) fun h13 => ck (kd h13 l0 = 5) (ck (kd h13 l0 = 5) (ck (kd h13 l0 = 5) (ck (kd h13 l0 = 5) (cR (mE mtab d 88 [.ref (gR h13 l0 1), .int (gI h13 l0 6)] h13) (fun x15 h14 => ck (kd h14 l0 = 5) (ck (kd h14 l0 = 5) (cR (mE mtab d 88 [.ref (gR h14 l0 2), .int (gI h14 l0 6)] h14) (fun x17 h16 => ck (kd h16 l0 = 5) (ck (kd h16 l0 = 5) (cR (mE mtab d 88 [.ref (gR h16 l0 3), .int (gI h16 l0 6)] h16) (fun x19 h18 => ck (kd h18 (mN h) = 9) (cV (mE mtab d 92 [.ref (mN h), .ref (gR h13 l0 9), .ref (gR h13 l0 10), .ref x15, .ref x17, .ref x19] h18) (fun h20 => some (.ref (mN h), h20)))))))))))))) := by
  refine mX_to 1 (k' := 38) (ls' := [some (.ref l0), some (.int l1)]) (st' := [.ref (mN h)]) (h' := (mA h 9 5)) rfl ?_
  refine lt_gen (X := fun h13 : MH => mX (mE mtab d) KX4_read 38 [some (.ref l0), some (.int l1)] [.ref (mN h)] h13) fun h13 => ?_
  refine mX_to 2 (k' := 40) (ls' := [some (.ref l0), some (.int l1)]) (st' := [.ref l0, .ref (mN h), .ref (mN h)]) (h' := h13) rfl ?_
  refine mX_ck (k' := 41) (ls' := [some (.ref l0), some (.int l1)]) (st' := [.ref (gR h13 l0 9), .ref (mN h), .ref (mN h)]) (h' := h13) rfl ?_
  refine mX_to 1 (k' := 42) (ls' := [some (.ref l0), some (.int l1)]) (st' := [.ref l0, .ref (gR h13 l0 9), .ref (mN h), .ref (mN h)]) (h' := h13) rfl ?_
  refine mX_ck (k' := 43) (ls' := [some (.ref l0), some (.int l1)]) (st' := [.ref (gR h13 l0 10), .ref (gR h13 l0 9), .ref (mN h), .ref (mN h)]) (h' := h13) rfl ?_
  refine mX_to 1 (k' := 44) (ls' := [some (.ref l0), some (.int l1)]) (st' := [.ref l0, .ref (gR h13 l0 10), .ref (gR h13 l0 9), .ref (mN h), .ref (mN h)]) (h' := h13) rfl ?_
  refine mX_ck (k' := 45) (ls' := [some (.ref l0), some (.int l1)]) (st' := [.ref (gR h13 l0 1), .ref (gR h13 l0 10), .ref (gR h13 l0 9), .ref (mN h), .ref (mN h)]) (h' := h13) rfl ?_
  refine mX_to 1 (k' := 46) (ls' := [some (.ref l0), some (.int l1)]) (st' := [.ref l0, .ref (gR h13 l0 1), .ref (gR h13 l0 10), .ref (gR h13 l0 9), .ref (mN h), .ref (mN h)]) (h' := h13) rfl ?_
  refine mX_ck (k' := 47) (ls' := [some (.ref l0), some (.int l1)]) (st' := [.int (gI h13 l0 6), .ref (gR h13 l0 1), .ref (gR h13 l0 10), .ref (gR h13 l0 9), .ref (mN h), .ref (mN h)]) (h' := h13) rfl ?_
  refine mX_cR (o := mE mtab d 88 [.ref (gR h13 l0 1), .int (gI h13 l0 6)] h13) (k' := 48) (ls' := [some (.ref l0), some (.int l1)]) (st' := [.ref (gR h13 l0 10), .ref (gR h13 l0 9), .ref (mN h), .ref (mN h)]) rfl ?_
  intro x15 h14
  refine mX_to 1 (k' := 49) (ls' := [some (.ref l0), some (.int l1)]) (st' := [.ref l0, .ref x15, .ref (gR h13 l0 10), .ref (gR h13 l0 9), .ref (mN h), .ref (mN h)]) (h' := h14) rfl ?_
  refine mX_ck (k' := 50) (ls' := [some (.ref l0), some (.int l1)]) (st' := [.ref (gR h14 l0 2), .ref x15, .ref (gR h13 l0 10), .ref (gR h13 l0 9), .ref (mN h), .ref (mN h)]) (h' := h14) rfl ?_
  refine mX_to 1 (k' := 51) (ls' := [some (.ref l0), some (.int l1)]) (st' := [.ref l0, .ref (gR h14 l0 2), .ref x15, .ref (gR h13 l0 10), .ref (gR h13 l0 9), .ref (mN h), .ref (mN h)]) (h' := h14) rfl ?_
  refine mX_ck (k' := 52) (ls' := [some (.ref l0), some (.int l1)]) (st' := [.int (gI h14 l0 6), .ref (gR h14 l0 2), .ref x15, .ref (gR h13 l0 10), .ref (gR h13 l0 9), .ref (mN h), .ref (mN h)]) (h' := h14) rfl ?_
  refine mX_cR (o := mE mtab d 88 [.ref (gR h14 l0 2), .int (gI h14 l0 6)] h14) (k' := 53) (ls' := [some (.ref l0), some (.int l1)]) (st' := [.ref x15, .ref (gR h13 l0 10), .ref (gR h13 l0 9), .ref (mN h), .ref (mN h)]) rfl ?_
  intro x17 h16
  refine mX_to 1 (k' := 54) (ls' := [some (.ref l0), some (.int l1)]) (st' := [.ref l0, .ref x17, .ref x15, .ref (gR h13 l0 10), .ref (gR h13 l0 9), .ref (mN h), .ref (mN h)]) (h' := h16) rfl ?_
  refine mX_ck (k' := 55) (ls' := [some (.ref l0), some (.int l1)]) (st' := [.ref (gR h16 l0 3), .ref x17, .ref x15, .ref (gR h13 l0 10), .ref (gR h13 l0 9), .ref (mN h), .ref (mN h)]) (h' := h16) rfl ?_
  refine mX_to 1 (k' := 56) (ls' := [some (.ref l0), some (.int l1)]) (st' := [.ref l0, .ref (gR h16 l0 3), .ref x17, .ref x15, .ref (gR h13 l0 10), .ref (gR h13 l0 9), .ref (mN h), .ref (mN h)]) (h' := h16) rfl ?_
  refine mX_ck (k' := 57) (ls' := [some (.ref l0), some (.int l1)]) (st' := [.int (gI h16 l0 6), .ref (gR h16 l0 3), .ref x17, .ref x15, .ref (gR h13 l0 10), .ref (gR h13 l0 9), .ref (mN h), .ref (mN h)]) (h' := h16) rfl ?_
  refine mX_cR (o := mE mtab d 88 [.ref (gR h16 l0 3), .int (gI h16 l0 6)] h16) (k' := 58) (ls' := [some (.ref l0), some (.int l1)]) (st' := [.ref x17, .ref x15, .ref (gR h13 l0 10), .ref (gR h13 l0 9), .ref (mN h), .ref (mN h)]) rfl ?_
  intro x19 h18
  refine mX_ckc (m := mcl (mE mtab d 92 [.ref (mN h), .ref (gR h13 l0 9), .ref (gR h13 l0 10), .ref x15, .ref x17, .ref x19] h18) 0 59 [some (.ref l0), some (.int l1)] [.ref (mN h)]) rfl ?_
  refine mk_cV ?_
  intro h20
  exact mX_ret rfl
theorem D_X4_read (d : Nat) (h : MH) (a0 : Nat) : mE mtab (d + 1) 93 [.ref a0] h = ck (kd h a0 = 5) (lt_ (sI h a0 5 0) fun h1 => ck (kd h1 a0 = 5) (lt_ (sI h1 a0 6 0) fun h2 => ck (kd h2 a0 = 5) (lt_ (sR h2 a0 9 0) fun h3 => ck (kd h3 a0 = 5) (lt_ (sR h3 a0 10 0) fun h4 => ck (kd h4 a0 = 5) (lt_ (sI h4 a0 11 0) fun h5 => ck (kd h5 a0 = 5) (lt_ (sI h5 a0 12 (-1)) fun h6 => ck (kd h6 a0 = 5) (ck (kd h6 (gR h6 a0 0) = 8) (cV (mE mtab d 67 [.ref (gR h6 a0 0)] h6) (fun h7 => mX (mE mtab d) KX4_read 23 [some (.ref a0), some (.int 0)] [] h7))))))))) := by
  refine mE_eq (q := (yX4_read, cX4_read, 2, (some (.object "BoroughBeam$Text")), KX4_read)) (C := KX4_read) (ls := [some (.ref a0), none]) rfl rfl rfl rfl ?_
  refine mX_to 2 (k' := 2) (ls' := [some (.ref a0), none]) (st' := [.int 0, .ref a0]) (h' := h) rfl ?_
  refine mX_ck (k' := 3) (ls' := [some (.ref a0), none]) (st' := []) (h' := (sI h a0 5 0)) rfl ?_
  refine lt_gen (X := fun h1 : MH => mX (mE mtab d) KX4_read 3 [some (.ref a0), none] [] h1) fun h1 => ?_
  refine mX_to 2 (k' := 5) (ls' := [some (.ref a0), none]) (st' := [.int 0, .ref a0]) (h' := h1) rfl ?_
  refine mX_ck (k' := 6) (ls' := [some (.ref a0), none]) (st' := []) (h' := (sI h1 a0 6 0)) rfl ?_
  refine lt_gen (X := fun h2 : MH => mX (mE mtab d) KX4_read 6 [some (.ref a0), none] [] h2) fun h2 => ?_
  refine mX_to 2 (k' := 8) (ls' := [some (.ref a0), none]) (st' := [.ref 0, .ref a0]) (h' := h2) rfl ?_
  refine mX_ck (k' := 9) (ls' := [some (.ref a0), none]) (st' := []) (h' := (sR h2 a0 9 0)) rfl ?_
  refine lt_gen (X := fun h3 : MH => mX (mE mtab d) KX4_read 9 [some (.ref a0), none] [] h3) fun h3 => ?_
  refine mX_to 2 (k' := 11) (ls' := [some (.ref a0), none]) (st' := [.ref 0, .ref a0]) (h' := h3) rfl ?_
  refine mX_ck (k' := 12) (ls' := [some (.ref a0), none]) (st' := []) (h' := (sR h3 a0 10 0)) rfl ?_
  refine lt_gen (X := fun h4 : MH => mX (mE mtab d) KX4_read 12 [some (.ref a0), none] [] h4) fun h4 => ?_
  refine mX_to 2 (k' := 14) (ls' := [some (.ref a0), none]) (st' := [.int 0, .ref a0]) (h' := h4) rfl ?_
  refine mX_ck (k' := 15) (ls' := [some (.ref a0), none]) (st' := []) (h' := (sI h4 a0 11 0)) rfl ?_
  refine lt_gen (X := fun h5 : MH => mX (mE mtab d) KX4_read 15 [some (.ref a0), none] [] h5) fun h5 => ?_
  refine mX_to 2 (k' := 17) (ls' := [some (.ref a0), none]) (st' := [.int (-1), .ref a0]) (h' := h5) rfl ?_
  refine mX_ck (k' := 18) (ls' := [some (.ref a0), none]) (st' := []) (h' := (sI h5 a0 12 (-1))) rfl ?_
  refine lt_gen (X := fun h6 : MH => mX (mE mtab d) KX4_read 18 [some (.ref a0), none] [] h6) fun h6 => ?_
  refine mX_to 1 (k' := 19) (ls' := [some (.ref a0), none]) (st' := [.ref a0]) (h' := h6) rfl ?_
  refine mX_ck (k' := 20) (ls' := [some (.ref a0), none]) (st' := [.ref (gR h6 a0 0)]) (h' := h6) rfl ?_
  refine mX_ckc (m := mcl (mE mtab d 67 [.ref (gR h6 a0 0)] h6) 0 21 [some (.ref a0), none] []) rfl ?_
  refine mk_cV ?_
  intro h7
  refine mX_to 2 (k' := 23) (ls' := [some (.ref a0), some (.int 0)]) (st' := []) (h' := h7) rfl ?_
  rfl
theorem D_X0_addText (d : Nat) (h : MH) (a0 : Nat) (a1 : Nat) : mE mtab (d + 1) 94 [.ref a0, .ref a1] h = ck (kd h a0 = 1) ((if (gI h a0 4) < 4 then ck (kd h a0 = 1) (ck (kd h a0 = 1) (ck (kd h (gR h a0 3) = 23 ∧ ib (gI h a0 4) (ln h (gR h a0 3)) ∧ (a1 = 0 ∨ kd h a1 = 9)) (lt_ (sR h (gR h a0 3) (ix (gI h a0 4)) a1) fun h1 => ck (kd h1 a0 = 1) (ck (kd h1 a0 = 1) (lt_ (sI h1 a0 4 ((gI h1 a0 4) + 1)) fun h2 => ck (kd h2 a0 = 1) (some (.int ((gI h2 a0 4) - 1), h2))))))) else some (.int (-1), h))) := by
  refine mE_eq (q := (yX0_addText, cX0_addText, 2, (some .int), KX0_addText)) (C := KX0_addText) (ls := [some (.ref a0), some (.ref a1)]) rfl rfl rfl rfl ?_
  refine mX_to 1 (k' := 1) (ls' := [some (.ref a0), some (.ref a1)]) (st' := [.ref a0]) (h' := h) rfl ?_
  refine mX_ck (k' := 2) (ls' := [some (.ref a0), some (.ref a1)]) (st' := [.int (gI h a0 4)]) (h' := h) rfl ?_
  refine mX_to 1 (k' := 3) (ls' := [some (.ref a0), some (.ref a1)]) (st' := [.int 4, .int (gI h a0 4)]) (h' := h) rfl ?_
  refine mX_br (t := 6) (f := 4) (ls' := [some (.ref a0), some (.ref a1)]) (st' := []) (h' := h) rfl ?_ ?_
  · refine mX_to 1 (k' := 7) (ls' := [some (.ref a0), some (.ref a1)]) (st' := [.ref a0]) (h' := h) rfl ?_
    refine mX_ck (k' := 8) (ls' := [some (.ref a0), some (.ref a1)]) (st' := [.ref (gR h a0 3)]) (h' := h) rfl ?_
    refine mX_to 1 (k' := 9) (ls' := [some (.ref a0), some (.ref a1)]) (st' := [.ref a0, .ref (gR h a0 3)]) (h' := h) rfl ?_
    refine mX_ck (k' := 10) (ls' := [some (.ref a0), some (.ref a1)]) (st' := [.int (gI h a0 4), .ref (gR h a0 3)]) (h' := h) rfl ?_
    refine mX_to 1 (k' := 11) (ls' := [some (.ref a0), some (.ref a1)]) (st' := [.ref a1, .int (gI h a0 4), .ref (gR h a0 3)]) (h' := h) rfl ?_
    refine mX_ck (k' := 12) (ls' := [some (.ref a0), some (.ref a1)]) (st' := []) (h' := (sR h (gR h a0 3) (ix (gI h a0 4)) a1)) rfl ?_
    refine lt_gen (X := fun h1 : MH => mX (mE mtab d) KX0_addText 12 [some (.ref a0), some (.ref a1)] [] h1) fun h1 => ?_
    refine mX_to 2 (k' := 14) (ls' := [some (.ref a0), some (.ref a1)]) (st' := [.ref a0, .ref a0]) (h' := h1) rfl ?_
    refine mX_ck (k' := 15) (ls' := [some (.ref a0), some (.ref a1)]) (st' := [.int (gI h1 a0 4), .ref a0]) (h' := h1) rfl ?_
    refine mX_to 2 (k' := 17) (ls' := [some (.ref a0), some (.ref a1)]) (st' := [.int ((gI h1 a0 4) + 1), .ref a0]) (h' := h1) rfl ?_
    refine mX_ck (k' := 18) (ls' := [some (.ref a0), some (.ref a1)]) (st' := []) (h' := (sI h1 a0 4 ((gI h1 a0 4) + 1))) rfl ?_
    refine lt_gen (X := fun h2 : MH => mX (mE mtab d) KX0_addText 18 [some (.ref a0), some (.ref a1)] [] h2) fun h2 => ?_
    refine mX_to 1 (k' := 19) (ls' := [some (.ref a0), some (.ref a1)]) (st' := [.ref a0]) (h' := h2) rfl ?_
    refine mX_ck (k' := 20) (ls' := [some (.ref a0), some (.ref a1)]) (st' := [.int (gI h2 a0 4)]) (h' := h2) rfl ?_
    refine mX_to 2 (k' := 22) (ls' := [some (.ref a0), some (.ref a1)]) (st' := [.int ((gI h2 a0 4) - 1)]) (h' := h2) rfl ?_
    exact mX_reti rfl
  · refine mX_to 1 (k' := 5) (ls' := [some (.ref a0), some (.ref a1)]) (st' := [.int (-1)]) (h' := h) rfl ?_
    exact mX_reti rfl
