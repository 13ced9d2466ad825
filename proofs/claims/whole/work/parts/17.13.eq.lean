/-! EQUATIONS OF THE METHODS (written by wip/gen/dgen.py) -/
theorem D_X11_hour (d : Nat) (h : MH) (a0 : Nat) (a1 : Int32) : mE mtab (d + 1) 201 [.ref a0, .int a1] h = cI (mE mtab d 14 [.int a1, .int 1, .int 60] h) (fun x2 h1 => (if x2 = 0 then some (.int (-1), h1) else ck (kd h1 a0 = 12) (ck ((kd h1 (gR h1 a0 0) = 20 ∨ kd h1 (gR h1 a0 0) = 24) ∧ ib (6 : Int32) (ln h1 (gR h1 a0 0))) ((if ((gI h1 (gR h1 a0 0) (ix (6 : Int32))) + a1) ≤ 9999 then ck (kd h1 a0 = 12) (cI (mE mtab d 200 [.ref a0, .int a1] h1) (fun x4 h3 => (if x4 = 0 then some (.int (-1), h3) else ck (kd h3 a0 = 12) (some (.int (gI h3 a0 24), h3))))) else some (.int (-1), h1)))))) := by
  refine mE_eq (q := (yX11_hour, cX11_hour, 2, (some .int), KX11_hour)) (C := KX11_hour) (ls := [some (.ref a0), some (.int a1)]) rfl rfl rfl rfl ?_
  refine mX_to 3 (k' := 3) (ls' := [some (.ref a0), some (.int a1)]) (st' := [.int 60, .int 1, .int a1]) (h' := h) rfl ?_
  refine mX_cI (o := mE mtab d 14 [.int a1, .int 1, .int 60] h) (k' := 4) (ls' := [some (.ref a0), some (.int a1)]) (st' := []) rfl ?_
  intro x2 h1
  refine mX_br (t := 20) (f := 5) (ls' := [some (.ref a0), some (.int a1)]) (st' := []) (h' := h1) rfl ?_ ?_
  · refine mX_to 1 (k' := 21) (ls' := [some (.ref a0), some (.int a1)]) (st' := [.int (-1)]) (h' := h1) rfl ?_
    exact mX_reti rfl
  · refine mX_to 1 (k' := 6) (ls' := [some (.ref a0), some (.int a1)]) (st' := [.ref a0]) (h' := h1) rfl ?_
    refine mX_ck (k' := 7) (ls' := [some (.ref a0), some (.int a1)]) (st' := [.ref (gR h1 a0 0)]) (h' := h1) rfl ?_
    refine mX_to 1 (k' := 8) (ls' := [some (.ref a0), some (.int a1)]) (st' := [.int 6, .ref (gR h1 a0 0)]) (h' := h1) rfl ?_
    refine mX_ck (k' := 9) (ls' := [some (.ref a0), some (.int a1)]) (st' := [.int (gI h1 (gR h1 a0 0) (ix (6 : Int32)))]) (h' := h1) rfl ?_
    refine mX_to 3 (k' := 12) (ls' := [some (.ref a0), some (.int a1)]) (st' := [.int 9999, .int ((gI h1 (gR h1 a0 0) (ix (6 : Int32))) + a1)]) (h' := h1) rfl ?_
    refine mX_br (t := 13) (f := 20) (ls' := [some (.ref a0), some (.int a1)]) (st' := []) (h' := h1) rfl ?_ ?_
    · refine mX_to 2 (k' := 15) (ls' := [some (.ref a0), some (.int a1)]) (st' := [.int a1, .ref a0]) (h' := h1) rfl ?_
      refine mX_ckc (m := mcl (mE mtab d 200 [.ref a0, .int a1] h1) 1 16 [some (.ref a0), some (.int a1)] []) rfl ?_
      refine mk_cI ?_
      intro x4 h3
      refine mX_br (t := 20) (f := 17) (ls' := [some (.ref a0), some (.int a1)]) (st' := []) (h' := h3) rfl ?_ ?_
      · refine mX_to 1 (k' := 21) (ls' := [some (.ref a0), some (.int a1)]) (st' := [.int (-1)]) (h' := h3) rfl ?_
        exact mX_reti rfl
      · refine mX_to 1 (k' := 18) (ls' := [some (.ref a0), some (.int a1)]) (st' := [.ref a0]) (h' := h3) rfl ?_
        refine mX_ck (k' := 19) (ls' := [some (.ref a0), some (.int a1)]) (st' := [.int (gI h3 a0 24)]) (h' := h3) rfl ?_
        refine mX_to 1 (k' := 21) (ls' := [some (.ref a0), some (.int a1)]) (st' := [.int (gI h3 a0 24)]) (h' := h3) rfl ?_
        exact mX_reti rfl
    · refine mX_to 1 (k' := 21) (ls' := [some (.ref a0), some (.int a1)]) (st' := [.int (-1)]) (h' := h1) rfl ?_
      exact mX_reti rfl
theorem D_X0_does_13 (d : Nat) (h : MH) (l0 : Nat) (l1 : Int32) (l2 : Int32) (l3 : Int32) (s0 : Int32) : mX (mE mtab d) KX0_does 13 [some (.ref l0), some (.int l1), some (.int l2), some (.int l3), none] [.int s0] h = ck (kd h l0 = 1) (cI (mE mtab d 192 [.ref l0, .int l2] h) (fun x12 h11 => ck (mrt 1 s0) (some (.int s0, h11)))) := by
  refine mX_to 3 (k' := 16) (ls' := [some (.ref l0), some (.int l1), some (.int l2), some (.int l3), some (.int s0)]) (st' := [.int l2, .ref l0]) (h' := h) rfl ?_
  refine mX_ckc (m := mcl (mE mtab d 192 [.ref l0, .int l2] h) 1 17 [some (.ref l0), some (.int l1), some (.int l2), some (.int l3), some (.int s0)] []) rfl ?_
  refine mk_cI ?_
  intro x12 h11
  refine mX_to 2 (k' := 19) (ls' := [some (.ref l0), some (.int l1), some (.int l2), some (.int l3), some (.int s0)]) (st' := [.int s0]) (h' := h11) rfl ?_
  exact mX_retc rfl
theorem D_X0_does (d : Nat) (h : MH) (a0 : Nat) (a1 : Int32) (a2 : Int32) (a3 : Int32) : mE mtab (d + 1) 202 [.ref a0, .int a1, .int a2, .int a3] h = (if a1 = 307 then ck (kd h a0 = 1) (ck (kd h (gR h a0 0) = 10) ((if ((gI h (gR h a0 0) 5) + a2) ≤ 9999 then mX (mE mtab d) KX0_does 13 [some (.ref a0), some (.int a1), some (.int a2), some (.int a3), none] [.int 1] h else mX (mE mtab d) KX0_does 13 [some (.ref a0), some (.int a1), some (.int a2), some (.int a3), none] [.int 0] h))) else (if a1 = 302 then ck (kd h a0 = 1) (ck (kd h (gR h a0 0) = 10) (cI (mE mtab d 12 [.ref (gR h a0 0), .int a2, .int a3] h) (fun x2 h1 => (if x2 = (-1) then some (.int 0, h1) else some (.int 1, h1))))) else (if a1 = 303 then ck (kd h a0 = 1) (ck (kd h (gR h a0 0) = 10) (cI (mE mtab d 18 [.ref (gR h a0 0), .int a2, .int a3] h) (fun x4 h3 => ck (mrt 1 x4) (some (.int x4, h3))))) else (if a1 = 304 then ck (kd h a0 = 1) (cI (mE mtab d 149 [.ref a0, .int a2, .int 0] h) (fun x6 h5 => ck (mrt 1 x6) (some (.int x6, h5)))) else (if a1 = 305 then ck (kd h a0 = 1) (cI (mE mtab d 149 [.ref a0, .int a2, .int 1] h) (fun x8 h7 => ck (mrt 1 x8) (some (.int x8, h7)))) else (if a1 = 306 then ck (kd h a0 = 1) (cI (mE mtab d 183 [.ref a0, .int a3, .int a2] h) (fun x10 h9 => ck (mrt 1 x10) (some (.int x10, h9)))) else some (.int 1, h))))))) := by
  refine mE_eq (q := (yX0_does, cX0_does, 5, (some .boolean), KX0_does)) (C := KX0_does) (ls := [some (.ref a0), some (.int a1), some (.int a2), some (.int a3), none]) rfl rfl rfl rfl ?_
  refine mX_to 2 (k' := 2) (ls' := [some (.ref a0), some (.int a1), some (.int a2), some (.int a3), none]) (st' := [.int 307, .int a1]) (h' := h) rfl ?_
  refine mX_br (t := 3) (f := 20) (ls' := [some (.ref a0), some (.int a1), some (.int a2), some (.int a3), none]) (st' := []) (h' := h) rfl ?_ ?_
  · refine mX_to 1 (k' := 4) (ls' := [some (.ref a0), some (.int a1), some (.int a2), some (.int a3), none]) (st' := [.ref a0]) (h' := h) rfl ?_
    refine mX_ck (k' := 5) (ls' := [some (.ref a0), some (.int a1), some (.int a2), some (.int a3), none]) (st' := [.ref (gR h a0 0)]) (h' := h) rfl ?_
    refine mX_ck (k' := 6) (ls' := [some (.ref a0), some (.int a1), some (.int a2), some (.int a3), none]) (st' := [.int (gI h (gR h a0 0) 5)]) (h' := h) rfl ?_
    refine mX_to 3 (k' := 9) (ls' := [some (.ref a0), some (.int a1), some (.int a2), some (.int a3), none]) (st' := [.int 9999, .int ((gI h (gR h a0 0) 5) + a2)]) (h' := h) rfl ?_
    refine mX_br (t := 10) (f := 12) (ls' := [some (.ref a0), some (.int a1), some (.int a2), some (.int a3), none]) (st' := []) (h' := h) rfl ?_ ?_
    · refine mX_to 2 (k' := 13) (ls' := [some (.ref a0), some (.int a1), some (.int a2), some (.int a3), none]) (st' := [.int 1]) (h' := h) rfl ?_
      rfl
    · refine mX_to 1 (k' := 13) (ls' := [some (.ref a0), some (.int a1), some (.int a2), some (.int a3), none]) (st' := [.int 0]) (h' := h) rfl ?_
      rfl
  · refine mX_to 1 (k' := 21) (ls' := [some (.ref a0), some (.int a1), some (.int a2), some (.int a3), none]) (st' := [.int a1]) (h' := h) rfl ?_
    refine mX_sw (x := a1) (t := 54) (sw := [(302, 22), (303, 33), (304, 39), (305, 44), (306, 49)]) (ls' := [some (.ref a0), some (.int a1), some (.int a2), some (.int a3), none]) (st' := []) (h' := h) rfl ?_
    refine msw_cons ?_ ?_
    · refine mX_to 1 (k' := 23) (ls' := [some (.ref a0), some (.int a1), some (.int a2), some (.int a3), none]) (st' := [.ref a0]) (h' := h) rfl ?_
      refine mX_ck (k' := 24) (ls' := [some (.ref a0), some (.int a1), some (.int a2), some (.int a3), none]) (st' := [.ref (gR h a0 0)]) (h' := h) rfl ?_
      refine mX_to 2 (k' := 26) (ls' := [some (.ref a0), some (.int a1), some (.int a2), some (.int a3), none]) (st' := [.int a3, .int a2, .ref (gR h a0 0)]) (h' := h) rfl ?_
      refine mX_ckc (m := mcl (mE mtab d 12 [.ref (gR h a0 0), .int a2, .int a3] h) 1 27 [some (.ref a0), some (.int a1), some (.int a2), some (.int a3), none] []) rfl ?_
      refine mk_cI ?_
      intro x2 h1
      refine mX_to 1 (k' := 28) (ls' := [some (.ref a0), some (.int a1), some (.int a2), some (.int a3), none]) (st' := [.int (-1), .int x2]) (h' := h1) rfl ?_
      refine mX_br (t := 31) (f := 29) (ls' := [some (.ref a0), some (.int a1), some (.int a2), some (.int a3), none]) (st' := []) (h' := h1) rfl ?_ ?_
      · refine mX_to 1 (k' := 32) (ls' := [some (.ref a0), some (.int a1), some (.int a2), some (.int a3), none]) (st' := [.int 0]) (h' := h1) rfl ?_
        exact mX_retb (by decide) rfl
      · refine mX_to 2 (k' := 32) (ls' := [some (.ref a0), some (.int a1), some (.int a2), some (.int a3), none]) (st' := [.int 1]) (h' := h1) rfl ?_
        exact mX_retb (by decide) rfl
    refine msw_cons ?_ ?_
    · refine mX_to 1 (k' := 34) (ls' := [some (.ref a0), some (.int a1), some (.int a2), some (.int a3), none]) (st' := [.ref a0]) (h' := h) rfl ?_
      refine mX_ck (k' := 35) (ls' := [some (.ref a0), some (.int a1), some (.int a2), some (.int a3), none]) (st' := [.ref (gR h a0 0)]) (h' := h) rfl ?_
      refine mX_to 2 (k' := 37) (ls' := [some (.ref a0), some (.int a1), some (.int a2), some (.int a3), none]) (st' := [.int a3, .int a2, .ref (gR h a0 0)]) (h' := h) rfl ?_
      refine mX_ckc (m := mcl (mE mtab d 18 [.ref (gR h a0 0), .int a2, .int a3] h) 1 38 [some (.ref a0), some (.int a1), some (.int a2), some (.int a3), none] []) rfl ?_
      refine mk_cI ?_
      intro x4 h3
      exact mX_retc rfl
    refine msw_cons ?_ ?_
    · refine mX_to 3 (k' := 42) (ls' := [some (.ref a0), some (.int a1), some (.int a2), some (.int a3), none]) (st' := [.int 0, .int a2, .ref a0]) (h' := h) rfl ?_
      refine mX_ckc (m := mcl (mE mtab d 149 [.ref a0, .int a2, .int 0] h) 1 43 [some (.ref a0), some (.int a1), some (.int a2), some (.int a3), none] []) rfl ?_
      refine mk_cI ?_
      intro x6 h5
      exact mX_retc rfl
    refine msw_cons ?_ ?_
    · refine mX_to 3 (k' := 47) (ls' := [some (.ref a0), some (.int a1), some (.int a2), some (.int a3), none]) (st' := [.int 1, .int a2, .ref a0]) (h' := h) rfl ?_
      refine mX_ckc (m := mcl (mE mtab d 149 [.ref a0, .int a2, .int 1] h) 1 48 [some (.ref a0), some (.int a1), some (.int a2), some (.int a3), none] []) rfl ?_
      refine mk_cI ?_
      intro x8 h7
      exact mX_retc rfl
    refine msw_cons ?_ ?_
    · refine mX_to 3 (k' := 52) (ls' := [some (.ref a0), some (.int a1), some (.int a2), some (.int a3), none]) (st' := [.int a2, .int a3, .ref a0]) (h' := h) rfl ?_
      refine mX_ckc (m := mcl (mE mtab d 183 [.ref a0, .int a3, .int a2] h) 1 53 [some (.ref a0), some (.int a1), some (.int a2), some (.int a3), none] []) rfl ?_
      refine mk_cI ?_
      intro x10 h9
      exact mX_retc rfl
    refine msw_nil ?_
    refine mX_to 1 (k' := 55) (ls' := [some (.ref a0), some (.int a1), some (.int a2), some (.int a3), none]) (st' := [.int 1]) (h' := h) rfl ?_
    exact mX_retb (by decide) rfl
theorem D_X10_played_11 (d : Nat) (h : MH) (l0 : Nat) (l1 : Int32) (l2 : Nat) (l3 : Int32) : mX (mE mtab d) KX10_played 11 [some (.ref l0), some (.int l1), some (.ref l2), some (.int l3)] [] h = ck (kd h l2 = 9) (ck (20 ≤ kd h (gR h l2 2) ∧ ¬ kd h (gR h l2 2) = 25 ∧ kd h (gR h l2 2) ≤ 26) ((if l3 < (nI (ln h (gR h l2 2))) then ck (kd h l0 = 11) (ck (kd h l2 = 9) (ck ((kd h (gR h l2 2) = 20 ∨ kd h (gR h l2 2) = 24) ∧ ib l3 (ln h (gR h l2 2))) (ck (kd h l2 = 9) (ck ((kd h (gR h l2 3) = 20 ∨ kd h (gR h l2 3) = 24) ∧ ib l3 (ln h (gR h l2 3))) (ck (kd h l2 = 9) (ck ((kd h (gR h l2 4) = 20 ∨ kd h (gR h l2 4) = 24) ∧ ib l3 (ln h (gR h l2 4))) (ck (kd h (gR h l0 0) = 1) (cI (mE mtab d 202 [.ref (gR h l0 0), .int (gI h (gR h l2 2) (ix l3)), .int (gI h (gR h l2 3) (ix l3)), .int (gI h (gR h l2 4) (ix l3))] h) (fun x4 h3 => (if x4 = 0 then some (.int l3, h3) else mX (mE mtab d) KX10_played 11 [some (.ref l0), some (.int l1), some (.ref l2), some (.int (l3 + 1))] [] h3)))))))))) else some (.int (-1), h)))) := by
  refine mX_to 2 (k' := 13) (ls' := [some (.ref l0), some (.int l1), some (.ref l2), some (.int l3)]) (st' := [.ref l2, .int l3]) (h' := h) rfl ?_
  refine mX_ck (k' := 14) (ls' := [some (.ref l0), some (.int l1), some (.ref l2), some (.int l3)]) (st' := [.ref (gR h l2 2), .int l3]) (h' := h) rfl ?_
  refine mX_ck (k' := 15) (ls' := [some (.ref l0), some (.int l1), some (.ref l2), some (.int l3)]) (st' := [.int (nI (ln h (gR h l2 2))), .int l3]) (h' := h) rfl ?_
  refine mX_br (t := 16) (f := 36) (ls' := [some (.ref l0), some (.int l1), some (.ref l2), some (.int l3)]) (st' := []) (h' := h) rfl ?_ ?_
  · refine mX_to 1 (k' := 17) (ls' := [some (.ref l0), some (.int l1), some (.ref l2), some (.int l3)]) (st' := [.ref l0]) (h' := h) rfl ?_
    refine mX_ck (k' := 18) (ls' := [some (.ref l0), some (.int l1), some (.ref l2), some (.int l3)]) (st' := [.ref (gR h l0 0)]) (h' := h) rfl ?_
    refine mX_to 1 (k' := 19) (ls' := [some (.ref l0), some (.int l1), some (.ref l2), some (.int l3)]) (st' := [.ref l2, .ref (gR h l0 0)]) (h' := h) rfl ?_
    refine mX_ck (k' := 20) (ls' := [some (.ref l0), some (.int l1), some (.ref l2), some (.int l3)]) (st' := [.ref (gR h l2 2), .ref (gR h l0 0)]) (h' := h) rfl ?_
    refine mX_to 1 (k' := 21) (ls' := [some (.ref l0), some (.int l1), some (.ref l2), some (.int l3)]) (st' := [.int l3, .ref (gR h l2 2), .ref (gR h l0 0)]) (h' := h) rfl ?_
    refine mX_ck (k' := 22) (ls' := [some (.ref l0), some (.int l1), some (.ref l2), some (.int l3)]) (st' := [.int (gI h (gR h l2 2) (ix l3)), .ref (gR h l0 0)]) (h' := h) rfl ?_
    refine mX_to 1 (k' := 23) (ls' := [some (.ref l0), some (.int l1), some (.ref l2), some (.int l3)]) (st' := [.ref l2, .int (gI h (gR h l2 2) (ix l3)), .ref (gR h l0 0)]) (h' := h) rfl ?_
    refine mX_ck (k' := 24) (ls' := [some (.ref l0), some (.int l1), some (.ref l2), some (.int l3)]) (st' := [.ref (gR h l2 3), .int (gI h (gR h l2 2) (ix l3)), .ref (gR h l0 0)]) (h' := h) rfl ?_
    refine mX_to 1 (k' := 25) (ls' := [some (.ref l0), some (.int l1), some (.ref l2), some (.int l3)]) (st' := [.int l3, .ref (gR h l2 3), .int (gI h (gR h l2 2) (ix l3)), .ref (gR h l0 0)]) (h' := h) rfl ?_
    refine mX_ck (k' := 26) (ls' := [some (.ref l0), some (.int l1), some (.ref l2), some (.int l3)]) (st' := [.int (gI h (gR h l2 3) (ix l3)), .int (gI h (gR h l2 2) (ix l3)), .ref (gR h l0 0)]) (h' := h) rfl ?_
    refine mX_to 1 (k' := 27) (ls' := [some (.ref l0), some (.int l1), some (.ref l2), some (.int l3)]) (st' := [.ref l2, .int (gI h (gR h l2 3) (ix l3)), .int (gI h (gR h l2 2) (ix l3)), .ref (gR h l0 0)]) (h' := h) rfl ?_
    refine mX_ck (k' := 28) (ls' := [some (.ref l0), some (.int l1), some (.ref l2), some (.int l3)]) (st' := [.ref (gR h l2 4), .int (gI h (gR h l2 3) (ix l3)), .int (gI h (gR h l2 2) (ix l3)), .ref (gR h l0 0)]) (h' := h) rfl ?_
    refine mX_to 1 (k' := 29) (ls' := [some (.ref l0), some (.int l1), some (.ref l2), some (.int l3)]) (st' := [.int l3, .ref (gR h l2 4), .int (gI h (gR h l2 3) (ix l3)), .int (gI h (gR h l2 2) (ix l3)), .ref (gR h l0 0)]) (h' := h) rfl ?_
    refine mX_ck (k' := 30) (ls' := [some (.ref l0), some (.int l1), some (.ref l2), some (.int l3)]) (st' := [.int (gI h (gR h l2 4) (ix l3)), .int (gI h (gR h l2 3) (ix l3)), .int (gI h (gR h l2 2) (ix l3)), .ref (gR h l0 0)]) (h' := h) rfl ?_
    refine mX_ckc (m := mcl (mE mtab d 202 [.ref (gR h l0 0), .int (gI h (gR h l2 2) (ix l3)), .int (gI h (gR h l2 3) (ix l3)), .int (gI h (gR h l2 4) (ix l3))] h) 1 31 [some (.ref l0), some (.int l1), some (.ref l2), some (.int l3)] []) rfl ?_
    refine mk_cI ?_
    intro x4 h3
    refine mX_br (t := 32) (f := 34) (ls' := [some (.ref l0), some (.int l1), some (.ref l2), some (.int l3)]) (st' := []) (h' := h3) rfl ?_ ?_
    · refine mX_to 1 (k' := 33) (ls' := [some (.ref l0), some (.int l1), some (.ref l2), some (.int l3)]) (st' := [.int l3]) (h' := h3) rfl ?_
      exact mX_reti rfl
    · refine mX_to 2 (k' := 11) (ls' := [some (.ref l0), some (.int l1), some (.ref l2), some (.int (l3 + 1))]) (st' := []) (h' := h3) rfl ?_
      rfl
  · refine mX_to 1 (k' := 37) (ls' := [some (.ref l0), some (.int l1), some (.ref l2), some (.int l3)]) (st' := [.int (-1)]) (h' := h) rfl ?_
    exact mX_reti rfl
theorem D_X10_played (d : Nat) (h : MH) (a0 : Nat) (a1 : Int32) : mE mtab (d + 1) 203 [.ref a0, .int a1] h = ck (kd h a0 = 11) (ck (kd h (gR h a0 0) = 1) (cR (mE mtab d 133 [.ref (gR h a0 0), .int a1] h) (fun x2 h1 => (if x2 = 0 then some (.int (-2), h1) else mX (mE mtab d) KX10_played 11 [some (.ref a0), some (.int a1), some (.ref x2), some (.int 0)] [] h1)))) := by
  refine mE_eq (q := (yX10_played, cX10_played, 4, (some .int), KX10_played)) (C := KX10_played) (ls := [some (.ref a0), some (.int a1), none, none]) rfl rfl rfl rfl ?_
  refine mX_to 1 (k' := 1) (ls' := [some (.ref a0), some (.int a1), none, none]) (st' := [.ref a0]) (h' := h) rfl ?_
  refine mX_ck (k' := 2) (ls' := [some (.ref a0), some (.int a1), none, none]) (st' := [.ref (gR h a0 0)]) (h' := h) rfl ?_
  refine mX_to 1 (k' := 3) (ls' := [some (.ref a0), some (.int a1), none, none]) (st' := [.int a1, .ref (gR h a0 0)]) (h' := h) rfl ?_
  refine mX_ckc (m := mcl (mE mtab d 133 [.ref (gR h a0 0), .int a1] h) 3 4 [some (.ref a0), some (.int a1), none, none] []) rfl ?_
  refine mk_cR ?_
  intro x2 h1
  refine mX_to 2 (k' := 6) (ls' := [some (.ref a0), some (.int a1), some (.ref x2), none]) (st' := [.ref x2]) (h' := h1) rfl ?_
  refine mX_br (t := 7) (f := 9) (ls' := [some (.ref a0), some (.int a1), some (.ref x2), none]) (st' := []) (h' := h1) rfl ?_ ?_
  · refine mX_to 1 (k' := 8) (ls' := [some (.ref a0), some (.int a1), some (.ref x2), none]) (st' := [.int (-2)]) (h' := h1) rfl ?_
    exact mX_reti rfl
  · refine mX_to 2 (k' := 11) (ls' := [some (.ref a0), some (.int a1), some (.ref x2), some (.int 0)]) (st' := []) (h' := h1) rfl ?_
    rfl
theorem D_X11_isPlayed (d : Nat) (h : MH) (a0 : Nat) (a1 : Int32) : mE mtab (d + 1) 204 [.ref a0, .int a1] h = ck (kd h a0 = 12) (ck ((kd h (gR h a0 2) = 20 ∨ kd h (gR h a0 2) = 24) ∧ ib (a1 + 1) (ln h (gR h a0 2))) (lt_ (gI h (gR h a0 2) (ix (a1 + 1))) fun v1 => ck (kd h a0 = 12) (ck ((kd h (gR h a0 2) = 20 ∨ kd h (gR h a0 2) = 24) ∧ ib (a1 + 2) (ln h (gR h a0 2))) (lt_ (gI h (gR h a0 2) (ix (a1 + 2))) fun v2 => ck (kd h a0 = 12) (ck ((kd h (gR h a0 2) = 20 ∨ kd h (gR h a0 2) = 24) ∧ ib a1 (ln h (gR h a0 2))) ((if (gI h (gR h a0 2) (ix a1)) = 2 then ck (kd h a0 = 12) (cI (mE mtab d 16 [.ref a0, .int v1, .int v2] h) (fun x4 h3 => (if x4 < 0 then some (.int 0, h3) else some (.int 1, h3)))) else (if (gI h (gR h a0 2) (ix a1)) = 3 then ck (kd h a0 = 12) (cI (mE mtab d 21 [.ref a0, .int v1, .int v2] h) (fun x6 h5 => ck (mrt 1 x6) (some (.int x6, h5)))) else (if (gI h (gR h a0 2) (ix a1)) = 4 then ck (kd h a0 = 12) (cI (mE mtab d 176 [.ref a0, .int v1, .int 0] h) (fun x8 h7 => ck (mrt 1 x8) (some (.int x8, h7)))) else (if (gI h (gR h a0 2) (ix a1)) = 5 then ck (kd h a0 = 12) (cI (mE mtab d 176 [.ref a0, .int v1, .int 1] h) (fun x10 h9 => ck (mrt 1 x10) (some (.int x10, h9)))) else (if (gI h (gR h a0 2) (ix a1)) = 6 then ck (kd h a0 = 12) (cI (mE mtab d 186 [.ref a0, .int v2, .int v1] h) (fun x12 h11 => ck (mrt 1 x12) (some (.int x12, h11)))) else (if (gI h (gR h a0 2) (ix a1)) = 7 then ck (kd h a0 = 12) (cI (mE mtab d 200 [.ref a0, .int v1] h) (fun x14 h13 => ck (mrt 1 x14) (some (.int x14, h13)))) else some (.int 1, h))))))))))))) := by
  refine mE_eq (q := (yX11_isPlayed, cX11_isPlayed, 4, (some .boolean), KX11_isPlayed)) (C := KX11_isPlayed) (ls := [some (.ref a0), some (.int a1), none, none]) rfl rfl rfl rfl ?_
  refine mX_to 1 (k' := 1) (ls' := [some (.ref a0), some (.int a1), none, none]) (st' := [.ref a0]) (h' := h) rfl ?_
  refine mX_ck (k' := 2) (ls' := [some (.ref a0), some (.int a1), none, none]) (st' := [.ref (gR h a0 2)]) (h' := h) rfl ?_
  refine mX_to 3 (k' := 5) (ls' := [some (.ref a0), some (.int a1), none, none]) (st' := [.int (a1 + 1), .ref (gR h a0 2)]) (h' := h) rfl ?_
  refine mX_ck (k' := 6) (ls' := [some (.ref a0), some (.int a1), none, none]) (st' := [.int (gI h (gR h a0 2) (ix (a1 + 1)))]) (h' := h) rfl ?_
  refine lt_gen (X := fun v1 : Int32 => mX (mE mtab d) KX11_isPlayed 6 [some (.ref a0), some (.int a1), none, none] [.int v1] h) fun v1 => ?_
  refine mX_to 2 (k' := 8) (ls' := [some (.ref a0), some (.int a1), some (.int v1), none]) (st' := [.ref a0]) (h' := h) rfl ?_
  refine mX_ck (k' := 9) (ls' := [some (.ref a0), some (.int a1), some (.int v1), none]) (st' := [.ref (gR h a0 2)]) (h' := h) rfl ?_
  refine mX_to 3 (k' := 12) (ls' := [some (.ref a0), some (.int a1), some (.int v1), none]) (st' := [.int (a1 + 2), .ref (gR h a0 2)]) (h' := h) rfl ?_
  refine mX_ck (k' := 13) (ls' := [some (.ref a0), some (.int a1), some (.int v1), none]) (st' := [.int (gI h (gR h a0 2) (ix (a1 + 2)))]) (h' := h) rfl ?_
  refine lt_gen (X := fun v2 : Int32 => mX (mE mtab d) KX11_isPlayed 13 [some (.ref a0), some (.int a1), some (.int v1), none] [.int v2] h) fun v2 => ?_
  refine mX_to 2 (k' := 15) (ls' := [some (.ref a0), some (.int a1), some (.int v1), some (.int v2)]) (st' := [.ref a0]) (h' := h) rfl ?_
  refine mX_ck (k' := 16) (ls' := [some (.ref a0), some (.int a1), some (.int v1), some (.int v2)]) (st' := [.ref (gR h a0 2)]) (h' := h) rfl ?_
  refine mX_to 1 (k' := 17) (ls' := [some (.ref a0), some (.int a1), some (.int v1), some (.int v2)]) (st' := [.int a1, .ref (gR h a0 2)]) (h' := h) rfl ?_
  refine mX_ck (k' := 18) (ls' := [some (.ref a0), some (.int a1), some (.int v1), some (.int v2)]) (st' := [.int (gI h (gR h a0 2) (ix a1))]) (h' := h) rfl ?_
  refine mX_sw (x := (gI h (gR h a0 2) (ix a1))) (t := 52) (sw := [(2, 19), (3, 28), (4, 33), (5, 38), (6, 43), (7, 48)]) (ls' := [some (.ref a0), some (.int a1), some (.int v1), some (.int v2)]) (st' := []) (h' := h) rfl ?_
  refine msw_cons ?_ ?_
  · refine mX_to 3 (k' := 22) (ls' := [some (.ref a0), some (.int a1), some (.int v1), some (.int v2)]) (st' := [.int v2, .int v1, .ref a0]) (h' := h) rfl ?_
    refine mX_ckc (m := mcl (mE mtab d 16 [.ref a0, .int v1, .int v2] h) 1 23 [some (.ref a0), some (.int a1), some (.int v1), some (.int v2)] []) rfl ?_
    refine mk_cI ?_
    intro x4 h3
    refine mX_br (t := 26) (f := 24) (ls' := [some (.ref a0), some (.int a1), some (.int v1), some (.int v2)]) (st' := []) (h' := h3) rfl ?_ ?_
    · refine mX_to 1 (k' := 27) (ls' := [some (.ref a0), some (.int a1), some (.int v1), some (.int v2)]) (st' := [.int 0]) (h' := h3) rfl ?_
      exact mX_retb (by decide) rfl
    · refine mX_to 2 (k' := 27) (ls' := [some (.ref a0), some (.int a1), some (.int v1), some (.int v2)]) (st' := [.int 1]) (h' := h3) rfl ?_
      exact mX_retb (by decide) rfl
  refine msw_cons ?_ ?_
  · refine mX_to 3 (k' := 31) (ls' := [some (.ref a0), some (.int a1), some (.int v1), some (.int v2)]) (st' := [.int v2, .int v1, .ref a0]) (h' := h) rfl ?_
    refine mX_ckc (m := mcl (mE mtab d 21 [.ref a0, .int v1, .int v2] h) 1 32 [some (.ref a0), some (.int a1), some (.int v1), some (.int v2)] []) rfl ?_
    refine mk_cI ?_
    intro x6 h5
    exact mX_retc rfl
  refine msw_cons ?_ ?_
  · refine mX_to 3 (k' := 36) (ls' := [some (.ref a0), some (.int a1), some (.int v1), some (.int v2)]) (st' := [.int 0, .int v1, .ref a0]) (h' := h) rfl ?_
    refine mX_ckc (m := mcl (mE mtab d 176 [.ref a0, .int v1, .int 0] h) 1 37 [some (.ref a0), some (.int a1), some (.int v1), some (.int v2)] []) rfl ?_
    refine mk_cI ?_
    intro x8 h7
    exact mX_retc rfl
  refine msw_cons ?_ ?_
  · refine mX_to 3 (k' := 41) (ls' := [some (.ref a0), some (.int a1), some (.int v1), some (.int v2)]) (st' := [.int 1, .int v1, .ref a0]) (h' := h) rfl ?_
    refine mX_ckc (m := mcl (mE mtab d 176 [.ref a0, .int v1, .int 1] h) 1 42 [some (.ref a0), some (.int a1), some (.int v1), some (.int v2)] []) rfl ?_
    refine mk_cI ?_
    intro x10 h9
    exact mX_retc rfl
  refine msw_cons ?_ ?_
  · refine mX_to 3 (k' := 46) (ls' := [some (.ref a0), some (.int a1), some (.int v1), some (.int v2)]) (st' := [.int v1, .int v2, .ref a0]) (h' := h) rfl ?_
    refine mX_ckc (m := mcl (mE mtab d 186 [.ref a0, .int v2, .int v1] h) 1 47 [some (.ref a0), some (.int a1), some (.int v1), some (.int v2)] []) rfl ?_
    refine mk_cI ?_
    intro x12 h11
    exact mX_retc rfl
  refine msw_cons ?_ ?_
  · refine mX_to 2 (k' := 50) (ls' := [some (.ref a0), some (.int a1), some (.int v1), some (.int v2)]) (st' := [.int v1, .ref a0]) (h' := h) rfl ?_
    refine mX_ckc (m := mcl (mE mtab d 200 [.ref a0, .int v1] h) 1 51 [some (.ref a0), some (.int a1), some (.int v1), some (.int v2)] []) rfl ?_
    refine mk_cI ?_
    intro x14 h13
    exact mX_retc rfl
  refine msw_nil ?_
  refine mX_to 1 (k' := 53) (ls' := [some (.ref a0), some (.int a1), some (.int v1), some (.int v2)]) (st' := [.int 1]) (h' := h) rfl ?_
  exact mX_retb (by decide) rfl
theorem D_X11_played_14 (d : Nat) (h : MH) (l0 : Nat) (l1 : Int32) (l2 : Int32) : mX (mE mtab d) KX11_played 14 [some (.ref l0), some (.int l1), some (.int l2)] [] h = ck (kd h l0 = 12) (ck ((kd h (gR h l0 2) = 20 ∨ kd h (gR h l0 2) = 24) ∧ ib (681 * l1) (ln h (gR h l0 2))) ((if l2 < (gI h (gR h l0 2) (ix (681 * l1))) then ck (kd h l0 = 12) (cI (mE mtab d 204 [.ref l0, .int (((681 * l1) + 1) + (3 * l2))] h) (fun x4 h3 => (if x4 = 0 then some (.int l2, h3) else mX (mE mtab d) KX11_played 14 [some (.ref l0), some (.int l1), some (.int (l2 + 1))] [] h3))) else some (.int (-1), h)))) := by
  refine mX_to 2 (k' := 16) (ls' := [some (.ref l0), some (.int l1), some (.int l2)]) (st' := [.ref l0, .int l2]) (h' := h) rfl ?_
  refine mX_ck (k' := 17) (ls' := [some (.ref l0), some (.int l1), some (.int l2)]) (st' := [.ref (gR h l0 2), .int l2]) (h' := h) rfl ?_
  refine mX_to 3 (k' := 20) (ls' := [some (.ref l0), some (.int l1), some (.int l2)]) (st' := [.int (681 * l1), .ref (gR h l0 2), .int l2]) (h' := h) rfl ?_
  refine mX_ck (k' := 21) (ls' := [some (.ref l0), some (.int l1), some (.int l2)]) (st' := [.int (gI h (gR h l0 2) (ix (681 * l1))), .int l2]) (h' := h) rfl ?_
  refine mX_br (t := 22) (f := 38) (ls' := [some (.ref l0), some (.int l1), some (.int l2)]) (st' := []) (h' := h) rfl ?_ ?_
  · refine mX_to 10 (k' := 32) (ls' := [some (.ref l0), some (.int l1), some (.int l2)]) (st' := [.int (((681 * l1) + 1) + (3 * l2)), .ref l0]) (h' := h) rfl ?_
    refine mX_ckc (m := mcl (mE mtab d 204 [.ref l0, .int (((681 * l1) + 1) + (3 * l2))] h) 1 33 [some (.ref l0), some (.int l1), some (.int l2)] []) rfl ?_
    refine mk_cI ?_
    intro x4 h3
    refine mX_br (t := 34) (f := 36) (ls' := [some (.ref l0), some (.int l1), some (.int l2)]) (st' := []) (h' := h3) rfl ?_ ?_
    · refine mX_to 1 (k' := 35) (ls' := [some (.ref l0), some (.int l1), some (.int l2)]) (st' := [.int l2]) (h' := h3) rfl ?_
      exact mX_reti rfl
    · refine mX_to 2 (k' := 14) (ls' := [some (.ref l0), some (.int l1), some (.int (l2 + 1))]) (st' := []) (h' := h3) rfl ?_
      rfl
  · refine mX_to 1 (k' := 39) (ls' := [some (.ref l0), some (.int l1), some (.int l2)]) (st' := [.int (-1)]) (h' := h) rfl ?_
    exact mX_reti rfl
theorem D_X11_played (d : Nat) (h : MH) (a0 : Nat) (a1 : Int32) : mE mtab (d + 1) 205 [.ref a0, .int a1] h = ck (kd h a0 = 12) (ck ((kd h (gR h a0 0) = 20 ∨ kd h (gR h a0 0) = 24) ∧ ib (2 : Int32) (ln h (gR h a0 0))) (cI (mE mtab d 14 [.int a1, .int 0, .int ((gI h (gR h a0 0) (ix (2 : Int32))) - 1)] h) (fun x2 h1 => (if x2 = 0 then some (.int (-2), h1) else mX (mE mtab d) KX11_played 14 [some (.ref a0), some (.int a1), some (.int 0)] [] h1)))) := by
  refine mE_eq (q := (yX11_played, cX11_played, 3, (some .int), KX11_played)) (C := KX11_played) (ls := [some (.ref a0), some (.int a1), none]) rfl rfl rfl rfl ?_
  refine mX_to 3 (k' := 3) (ls' := [some (.ref a0), some (.int a1), none]) (st' := [.ref a0, .int 0, .int a1]) (h' := h) rfl ?_
  refine mX_ck (k' := 4) (ls' := [some (.ref a0), some (.int a1), none]) (st' := [.ref (gR h a0 0), .int 0, .int a1]) (h' := h) rfl ?_
  refine mX_to 1 (k' := 5) (ls' := [some (.ref a0), some (.int a1), none]) (st' := [.int 2, .ref (gR h a0 0), .int 0, .int a1]) (h' := h) rfl ?_
  refine mX_ck (k' := 6) (ls' := [some (.ref a0), some (.int a1), none]) (st' := [.int (gI h (gR h a0 0) (ix (2 : Int32))), .int 0, .int a1]) (h' := h) rfl ?_
  refine mX_to 2 (k' := 8) (ls' := [some (.ref a0), some (.int a1), none]) (st' := [.int ((gI h (gR h a0 0) (ix (2 : Int32))) - 1), .int 0, .int a1]) (h' := h) rfl ?_
  refine mX_cI (o := mE mtab d 14 [.int a1, .int 0, .int ((gI h (gR h a0 0) (ix (2 : Int32))) - 1)] h) (k' := 9) (ls' := [some (.ref a0), some (.int a1), none]) (st' := []) rfl ?_
  intro x2 h1
  refine mX_br (t := 10) (f := 12) (ls' := [some (.ref a0), some (.int a1), none]) (st' := []) (h' := h1) rfl ?_ ?_
  · refine mX_to 1 (k' := 11) (ls' := [some (.ref a0), some (.int a1), none]) (st' := [.int (-2)]) (h' := h1) rfl ?_
    exact mX_reti rfl
  · refine mX_to 2 (k' := 14) (ls' := [some (.ref a0), some (.int a1), some (.int 0)]) (st' := []) (h' := h1) rfl ?_
    rfl
theorem D_X9_happen_60 (d : Nat) (h : MH) (l0 : Nat) (l1 : Int32) (l2 : Int32) (l3 : Int32) (s0 : Int32) (s1 : Int32) (s2 : Nat) : mX (mE mtab d) KX9_happen 60 [some (.ref l0), some (.int l1), some (.int l2), some (.int l3)] [.int s0, .int s1, .ref s2] h = ck (kd h s2 = 10) (cI (mE mtab d 147 [.ref s2, .int s1, .int s0] h) (fun x10 h9 => some (.int 0, h9))) := by
  refine mX_ckc (m := mcl (mE mtab d 147 [.ref s2, .int s1, .int s0] h) 1 61 [some (.ref l0), some (.int l1), some (.int l2), some (.int l3)] []) rfl ?_
  refine mk_cI ?_
  intro x10 h9
  refine mX_to 1 (k' := 62) (ls' := [some (.ref l0), some (.int l1), some (.int l2), some (.int l3)]) (st' := []) (h' := h9) rfl ?_
  exact mX_ret rfl
theorem D_X9_happen (d : Nat) (h : MH) (a0 : Nat) (a1 : Int32) : mE mtab (d + 1) 206 [.ref a0, .int a1] h = lt_ (a1 - a1 / 6 * 6) fun v1 => (if v1 = 2 then ck (kd h a0 = 10) (cI (mE mtab d 182 [.ref a0, .int ((a1 / 6) - (a1 / 6) / 9 * 9), .int 1] h) (fun x3 h2 => some (.int 0, h2))) else (if v1 ≤ 3 then ck (kd h a0 = 10) ((if (gI h a0 0) ≤ 0 then some (.int 0, h) else ck (kd h a0 = 10) (ck (¬ (gI h a0 0) = 0) (lt_ (a1 - a1 / (gI h a0 0) * (gI h a0 0)) fun v4 => (if v1 = 3 then ck (kd h a0 = 10) (ck (¬ (gI h a0 0) = 0) (ck (kd h a0 = 10) (cI (mE mtab d 177 [.ref a0, .int v4, .int 0, .int ((a1 / 6) - (a1 / 6) / (gI h a0 0) * (gI h a0 0)), .int 1] h) (fun x6 h5 => some (.int 0, h5))))) else (if v1 = 1 then mX (mE mtab d) KX9_happen 60 [some (.ref a0), some (.int a1), some (.int v1), some (.int v4)] [.int 1, .int v4, .ref a0] h else mX (mE mtab d) KX9_happen 60 [some (.ref a0), some (.int a1), some (.int v1), some (.int v4)] [.int 0, .int v4, .ref a0] h)))))) else ck (kd h a0 = 10) ((if (gI h a0 5) < 9999 then ck (kd h a0 = 10) (cI (mE mtab d 191 [.ref a0] h) (fun x8 h7 => some (.int 0, h7))) else some (.int 0, h))))) := by
  refine mE_eq (q := (yX9_happen, cX9_happen, 4, none, KX9_happen)) (C := KX9_happen) (ls := [some (.ref a0), some (.int a1), none, none]) rfl rfl rfl rfl ?_
  refine mX_to 2 (k' := 2) (ls' := [some (.ref a0), some (.int a1), none, none]) (st' := [.int 6, .int a1]) (h' := h) rfl ?_
  refine mX_ckt (c := ¬ (6 : Int32) = 0) (k' := 3) (ls' := [some (.ref a0), some (.int a1), none, none]) (st' := [.int (a1 - a1 / 6 * 6)]) (h' := h) (by decide) rfl ?_
  refine lt_gen (X := fun v1 : Int32 => mX (mE mtab d) KX9_happen 3 [some (.ref a0), some (.int a1), none, none] [.int v1] h) fun v1 => ?_
  refine mX_to 3 (k' := 6) (ls' := [some (.ref a0), some (.int a1), some (.int v1), none]) (st' := [.int 2, .int v1]) (h' := h) rfl ?_
  refine mX_br (t := 7) (f := 17) (ls' := [some (.ref a0), some (.int a1), some (.int v1), none]) (st' := []) (h' := h) rfl ?_ ?_
  · refine mX_to 3 (k' := 10) (ls' := [some (.ref a0), some (.int a1), some (.int v1), none]) (st' := [.int 6, .int a1, .ref a0]) (h' := h) rfl ?_
    refine mX_ckt (c := ¬ (6 : Int32) = 0) (k' := 11) (ls' := [some (.ref a0), some (.int a1), some (.int v1), none]) (st' := [.int (a1 / 6), .ref a0]) (h' := h) (by decide) rfl ?_
    refine mX_to 1 (k' := 12) (ls' := [some (.ref a0), some (.int a1), some (.int v1), none]) (st' := [.int 9, .int (a1 / 6), .ref a0]) (h' := h) rfl ?_
    refine mX_ckt (c := ¬ (9 : Int32) = 0) (k' := 13) (ls' := [some (.ref a0), some (.int a1), some (.int v1), none]) (st' := [.int ((a1 / 6) - (a1 / 6) / 9 * 9), .ref a0]) (h' := h) (by decide) rfl ?_
    refine mX_to 1 (k' := 14) (ls' := [some (.ref a0), some (.int a1), some (.int v1), none]) (st' := [.int 1, .int ((a1 / 6) - (a1 / 6) / 9 * 9), .ref a0]) (h' := h) rfl ?_
    refine mX_ckc (m := mcl (mE mtab d 182 [.ref a0, .int ((a1 / 6) - (a1 / 6) / 9 * 9), .int 1] h) 1 15 [some (.ref a0), some (.int a1), some (.int v1), none] []) rfl ?_
    refine mk_cI ?_
    intro x3 h2
    refine mX_to 2 (k' := 62) (ls' := [some (.ref a0), some (.int a1), some (.int v1), none]) (st' := []) (h' := h2) rfl ?_
    exact mX_ret rfl
  · refine mX_to 2 (k' := 19) (ls' := [some (.ref a0), some (.int a1), some (.int v1), none]) (st' := [.int 3, .int v1]) (h' := h) rfl ?_
    refine mX_br (t := 28) (f := 20) (ls' := [some (.ref a0), some (.int a1), some (.int v1), none]) (st' := []) (h' := h) rfl ?_ ?_
    · refine mX_to 1 (k' := 29) (ls' := [some (.ref a0), some (.int a1), some (.int v1), none]) (st' := [.ref a0]) (h' := h) rfl ?_
      refine mX_ck (k' := 30) (ls' := [some (.ref a0), some (.int a1), some (.int v1), none]) (st' := [.int (gI h a0 0)]) (h' := h) rfl ?_
      refine mX_br (t := 62) (f := 31) (ls' := [some (.ref a0), some (.int a1), some (.int v1), none]) (st' := []) (h' := h) rfl ?_ ?_
      · exact mX_ret rfl
      · refine mX_to 2 (k' := 33) (ls' := [some (.ref a0), some (.int a1), some (.int v1), none]) (st' := [.ref a0, .int a1]) (h' := h) rfl ?_
        refine mX_ck (k' := 34) (ls' := [some (.ref a0), some (.int a1), some (.int v1), none]) (st' := [.int (gI h a0 0), .int a1]) (h' := h) rfl ?_
        refine mX_ck (k' := 35) (ls' := [some (.ref a0), some (.int a1), some (.int v1), none]) (st' := [.int (a1 - a1 / (gI h a0 0) * (gI h a0 0))]) (h' := h) rfl ?_
        refine lt_gen (X := fun v4 : Int32 => mX (mE mtab d) KX9_happen 35 [some (.ref a0), some (.int a1), some (.int v1), none] [.int v4] h) fun v4 => ?_
        refine mX_to 3 (k' := 38) (ls' := [some (.ref a0), some (.int a1), some (.int v1), some (.int v4)]) (st' := [.int 3, .int v1]) (h' := h) rfl ?_
        refine mX_br (t := 39) (f := 52) (ls' := [some (.ref a0), some (.int a1), some (.int v1), some (.int v4)]) (st' := []) (h' := h) rfl ?_ ?_
        · refine mX_to 5 (k' := 44) (ls' := [some (.ref a0), some (.int a1), some (.int v1), some (.int v4)]) (st' := [.int 6, .int a1, .int 0, .int v4, .ref a0]) (h' := h) rfl ?_
          refine mX_ckt (c := ¬ (6 : Int32) = 0) (k' := 45) (ls' := [some (.ref a0), some (.int a1), some (.int v1), some (.int v4)]) (st' := [.int (a1 / 6), .int 0, .int v4, .ref a0]) (h' := h) (by decide) rfl ?_
          refine mX_to 1 (k' := 46) (ls' := [some (.ref a0), some (.int a1), some (.int v1), some (.int v4)]) (st' := [.ref a0, .int (a1 / 6), .int 0, .int v4, .ref a0]) (h' := h) rfl ?_
          refine mX_ck (k' := 47) (ls' := [some (.ref a0), some (.int a1), some (.int v1), some (.int v4)]) (st' := [.int (gI h a0 0), .int (a1 / 6), .int 0, .int v4, .ref a0]) (h' := h) rfl ?_
          refine mX_ck (k' := 48) (ls' := [some (.ref a0), some (.int a1), some (.int v1), some (.int v4)]) (st' := [.int ((a1 / 6) - (a1 / 6) / (gI h a0 0) * (gI h a0 0)), .int 0, .int v4, .ref a0]) (h' := h) rfl ?_
          refine mX_to 1 (k' := 49) (ls' := [some (.ref a0), some (.int a1), some (.int v1), some (.int v4)]) (st' := [.int 1, .int ((a1 / 6) - (a1 / 6) / (gI h a0 0) * (gI h a0 0)), .int 0, .int v4, .ref a0]) (h' := h) rfl ?_
          refine mX_ckc (m := mcl (mE mtab d 177 [.ref a0, .int v4, .int 0, .int ((a1 / 6) - (a1 / 6) / (gI h a0 0) * (gI h a0 0)), .int 1] h) 1 50 [some (.ref a0), some (.int a1), some (.int v1), some (.int v4)] []) rfl ?_
          refine mk_cI ?_
          intro x6 h5
          refine mX_to 2 (k' := 62) (ls' := [some (.ref a0), some (.int a1), some (.int v1), some (.int v4)]) (st' := []) (h' := h5) rfl ?_
          exact mX_ret rfl
        · refine mX_to 4 (k' := 56) (ls' := [some (.ref a0), some (.int a1), some (.int v1), some (.int v4)]) (st' := [.int 1, .int v1, .int v4, .ref a0]) (h' := h) rfl ?_
          refine mX_br (t := 57) (f := 59) (ls' := [some (.ref a0), some (.int a1), some (.int v1), some (.int v4)]) (st' := [.int v4, .ref a0]) (h' := h) rfl ?_ ?_
          · refine mX_to 2 (k' := 60) (ls' := [some (.ref a0), some (.int a1), some (.int v1), some (.int v4)]) (st' := [.int 1, .int v4, .ref a0]) (h' := h) rfl ?_
            rfl
          · refine mX_to 1 (k' := 60) (ls' := [some (.ref a0), some (.int a1), some (.int v1), some (.int v4)]) (st' := [.int 0, .int v4, .ref a0]) (h' := h) rfl ?_
            rfl
    · refine mX_to 1 (k' := 21) (ls' := [some (.ref a0), some (.int a1), some (.int v1), none]) (st' := [.ref a0]) (h' := h) rfl ?_
      refine mX_ck (k' := 22) (ls' := [some (.ref a0), some (.int a1), some (.int v1), none]) (st' := [.int (gI h a0 5)]) (h' := h) rfl ?_
      refine mX_to 1 (k' := 23) (ls' := [some (.ref a0), some (.int a1), some (.int v1), none]) (st' := [.int 9999, .int (gI h a0 5)]) (h' := h) rfl ?_
      refine mX_br (t := 24) (f := 62) (ls' := [some (.ref a0), some (.int a1), some (.int v1), none]) (st' := []) (h' := h) rfl ?_ ?_
      · refine mX_to 1 (k' := 25) (ls' := [some (.ref a0), some (.int a1), some (.int v1), none]) (st' := [.ref a0]) (h' := h) rfl ?_
        refine mX_ckc (m := mcl (mE mtab d 191 [.ref a0] h) 1 26 [some (.ref a0), some (.int a1), some (.int v1), none] []) rfl ?_
        refine mk_cI ?_
        intro x8 h7
        refine mX_to 2 (k' := 62) (ls' := [some (.ref a0), some (.int a1), some (.int v1), none]) (st' := []) (h' := h7) rfl ?_
        exact mX_ret rfl
      · exact mX_ret rfl
theorem D_X10_years_30 (d : Nat) (h : MH) (l0 : Nat) (l1 : Int32) (l2 : Int32) (l3 : Nat) (l4 : Int32) : mX (mE mtab d) KX10_years 30 [some (.ref l0), some (.int l1), some (.int l2), some (.ref l3), some (.int l4)] [] h = (if l4 < l2 then ck (kd h l3 = 10) (cI (mE mtab d 187 [.ref l3] h) (fun x9 h8 => ck (kd h8 l3 = 10) (cV (mE mtab d 206 [.ref l3, .int x9] h8) (fun h10 => mX (mE mtab d) KX10_years 30 [some (.ref l0), some (.int l1), some (.int l2), some (.ref l3), some (.int (l4 + 1))] [] h10)))) else ck (kd h l0 = 11) (ck (kd h (gR h l0 0) = 1) (ck (kd h (gR h (gR h l0 0) 1) = 7) (cI (mE mtab d 148 [.ref (gR h (gR h l0 0) 1), .int 1] h) (fun x13 h12 => ck (kd h12 l3 = 10) (some (.int (gI h12 l3 5), h12))))))) := by
  refine mX_to 2 (k' := 32) (ls' := [some (.ref l0), some (.int l1), some (.int l2), some (.ref l3), some (.int l4)]) (st' := [.int l2, .int l4]) (h' := h) rfl ?_
  refine mX_br (t := 33) (f := 39) (ls' := [some (.ref l0), some (.int l1), some (.int l2), some (.ref l3), some (.int l4)]) (st' := []) (h' := h) rfl ?_ ?_
  · refine mX_to 2 (k' := 35) (ls' := [some (.ref l0), some (.int l1), some (.int l2), some (.ref l3), some (.int l4)]) (st' := [.ref l3, .ref l3]) (h' := h) rfl ?_
    refine mX_ckc (m := mcl (mE mtab d 187 [.ref l3] h) 1 36 [some (.ref l0), some (.int l1), some (.int l2), some (.ref l3), some (.int l4)] [.ref l3]) rfl ?_
    refine mk_cI ?_
    intro x9 h8
    refine mX_ckc (m := mcl (mE mtab d 206 [.ref l3, .int x9] h8) 0 37 [some (.ref l0), some (.int l1), some (.int l2), some (.ref l3), some (.int l4)] []) rfl ?_
    refine mk_cV ?_
    intro h10
    refine mX_to 2 (k' := 30) (ls' := [some (.ref l0), some (.int l1), some (.int l2), some (.ref l3), some (.int (l4 + 1))]) (st' := []) (h' := h10) rfl ?_
    rfl
  · refine mX_to 1 (k' := 40) (ls' := [some (.ref l0), some (.int l1), some (.int l2), some (.ref l3), some (.int l4)]) (st' := [.ref l0]) (h' := h) rfl ?_
    refine mX_ck (k' := 41) (ls' := [some (.ref l0), some (.int l1), some (.int l2), some (.ref l3), some (.int l4)]) (st' := [.ref (gR h l0 0)]) (h' := h) rfl ?_
    refine mX_ck (k' := 42) (ls' := [some (.ref l0), some (.int l1), some (.int l2), some (.ref l3), some (.int l4)]) (st' := [.ref (gR h (gR h l0 0) 1)]) (h' := h) rfl ?_
    refine mX_to 1 (k' := 43) (ls' := [some (.ref l0), some (.int l1), some (.int l2), some (.ref l3), some (.int l4)]) (st' := [.int 1, .ref (gR h (gR h l0 0) 1)]) (h' := h) rfl ?_
    refine mX_ckc (m := mcl (mE mtab d 148 [.ref (gR h (gR h l0 0) 1), .int 1] h) 1 44 [some (.ref l0), some (.int l1), some (.int l2), some (.ref l3), some (.int l4)] []) rfl ?_
    refine mk_cI ?_
    intro x13 h12
    refine mX_to 2 (k' := 46) (ls' := [some (.ref l0), some (.int l1), some (.int l2), some (.ref l3), some (.int l4)]) (st' := [.ref l3]) (h' := h12) rfl ?_
    refine mX_ck (k' := 47) (ls' := [some (.ref l0), some (.int l1), some (.int l2), some (.ref l3), some (.int l4)]) (st' := [.int (gI h12 l3 5)]) (h' := h12) rfl ?_
    exact mX_reti rfl
theorem D_X10_years (d : Nat) (h : MH) (a0 : Nat) (a1 : Int32) (a2 : Int32) : mE mtab (d + 1) 207 [.ref a0, .int a1, .int a2] h = cI (mE mtab d 11 [.int a1, .int 0, .int 9999] h) (fun x2 h1 => (if x2 = 0 then some (.int (-1), h1) else cI (mE mtab d 11 [.int a2, .int 1, .int 40] h1) (fun x4 h3 => (if x4 = 0 then some (.int (-1), h3) else ck (kd h3 a0 = 11) (ck (kd h3 (gR h3 a0 0) = 1) (lt_ (gR h3 (gR h3 a0 0) 0) fun v5 => ck (kd h3 a0 = 11) (ck (kd h3 (gR h3 a0 0) = 1) (ck (kd h3 (gR h3 (gR h3 a0 0) 1) = 7) (cV (mE mtab d 137 [.ref (gR h3 (gR h3 a0 0) 1), .ref v5] h3) (fun h6 => ck (kd h6 v5 = 10) (lt_ (sI h6 v5 6 ((a1 * 2) + 349)) fun h7 => mX (mE mtab d) KX10_years 30 [some (.ref a0), some (.int a1), some (.int a2), some (.ref v5), some (.int 0)] [] h7))))))))))) := by
  refine mE_eq (q := (yX10_years, cX10_years, 5, (some .int), KX10_years)) (C := KX10_years) (ls := [some (.ref a0), some (.int a1), some (.int a2), none, none]) rfl rfl rfl rfl ?_
  refine mX_to 3 (k' := 3) (ls' := [some (.ref a0), some (.int a1), some (.int a2), none, none]) (st' := [.int 9999, .int 0, .int a1]) (h' := h) rfl ?_
  refine mX_cI (o := mE mtab d 11 [.int a1, .int 0, .int 9999] h) (k' := 4) (ls' := [some (.ref a0), some (.int a1), some (.int a2), none, none]) (st' := []) rfl ?_
  intro x2 h1
  refine mX_br (t := 10) (f := 5) (ls' := [some (.ref a0), some (.int a1), some (.int a2), none, none]) (st' := []) (h' := h1) rfl ?_ ?_
  · refine mX_to 1 (k' := 11) (ls' := [some (.ref a0), some (.int a1), some (.int a2), none, none]) (st' := [.int (-1)]) (h' := h1) rfl ?_
    exact mX_reti rfl
  · refine mX_to 3 (k' := 8) (ls' := [some (.ref a0), some (.int a1), some (.int a2), none, none]) (st' := [.int 40, .int 1, .int a2]) (h' := h1) rfl ?_
    refine mX_cI (o := mE mtab d 11 [.int a2, .int 1, .int 40] h1) (k' := 9) (ls' := [some (.ref a0), some (.int a1), some (.int a2), none, none]) (st' := []) rfl ?_
    intro x4 h3
    refine mX_br (t := 10) (f := 12) (ls' := [some (.ref a0), some (.int a1), some (.int a2), none, none]) (st' := []) (h' := h3) rfl ?_ ?_
    · refine mX_to 1 (k' := 11) (ls' := [some (.ref a0), some (.int a1), some (.int a2), none, none]) (st' := [.int (-1)]) (h' := h3) rfl ?_
      exact mX_reti rfl
    · refine mX_to 1 (k' := 13) (ls' := [some (.ref a0), some (.int a1), some (.int a2), none, none]) (st' := [.ref a0]) (h' := h3) rfl ?_
      refine mX_ck (k' := 14) (ls' := [some (.ref a0), some (.int a1), some (.int a2), none, none]) (st' := [.ref (gR h3 a0 0)]) (h' := h3) rfl ?_
      refine mX_ck (k' := 15) (ls' := [some (.ref a0), some (.int a1), some (.int a2), none, none]) (st' := [.ref (gR h3 (gR h3 a0 0) 0)]) (h' := h3) rfl ?_
      refine lt_gen (X := fun v5 : Nat => mX (mE mtab d) KX10_years 15 [some (.ref a0), some (.int a1), some (.int a2), none, none] [.ref v5] h3) fun v5 => ?_
      refine mX_to 2 (k' := 17) (ls' := [some (.ref a0), some (.int a1), some (.int a2), some (.ref v5), none]) (st' := [.ref a0]) (h' := h3) rfl ?_
      refine mX_ck (k' := 18) (ls' := [some (.ref a0), some (.int a1), some (.int a2), some (.ref v5), none]) (st' := [.ref (gR h3 a0 0)]) (h' := h3) rfl ?_
      refine mX_ck (k' := 19) (ls' := [some (.ref a0), some (.int a1), some (.int a2), some (.ref v5), none]) (st' := [.ref (gR h3 (gR h3 a0 0) 1)]) (h' := h3) rfl ?_
      refine mX_to 1 (k' := 20) (ls' := [some (.ref a0), some (.int a1), some (.int a2), some (.ref v5), none]) (st' := [.ref v5, .ref (gR h3 (gR h3 a0 0) 1)]) (h' := h3) rfl ?_
      refine mX_ckc (m := mcl (mE mtab d 137 [.ref (gR h3 (gR h3 a0 0) 1), .ref v5] h3) 0 21 [some (.ref a0), some (.int a1), some (.int a2), some (.ref v5), none] []) rfl ?_
      refine mk_cV ?_
      intro h6
      refine mX_to 6 (k' := 27) (ls' := [some (.ref a0), some (.int a1), some (.int a2), some (.ref v5), none]) (st' := [.int ((a1 * 2) + 349), .ref v5]) (h' := h6) rfl ?_
      refine mX_ck (k' := 28) (ls' := [some (.ref a0), some (.int a1), some (.int a2), some (.ref v5), none]) (st' := []) (h' := (sI h6 v5 6 ((a1 * 2) + 349))) rfl ?_
      refine lt_gen (X := fun h7 : MH => mX (mE mtab d) KX10_years 28 [some (.ref a0), some (.int a1), some (.int a2), some (.ref v5), none] [] h7) fun h7 => ?_
      refine mX_to 2 (k' := 30) (ls' := [some (.ref a0), some (.int a1), some (.int a2), some (.ref v5), some (.int 0)]) (st' := []) (h' := h7) rfl ?_
      rfl
theorem D_X11_happens_29 (d : Nat) (h : MH) (l0 : Nat) (l1 : Int32) (l2 : Int32) (l3 : Int32) (s0 : Int32) (s1 : Int32) (s2 : Nat) : mX (mE mtab d) KX11_happens 29 [some (.ref l0), some (.int l1), some (.int l2), some (.int l3)] [.int s0, .int s1, .ref s2] h = ck (kd h s2 = 12) (cI (mE mtab d 174 [.ref s2, .int s1, .int s0] h) (fun x12 h11 => (if x12 = 0 then some (.int 0, h11) else ck (¬ l2 = 0) ((if (l1 - l1 / 6 * 6) = 1 then mX (mE mtab d) KX11_happens 43 [some (.ref l0), some (.int l1), some (.int l2), some (.int l3)] [.int 1, .int (l1 - l1 / l2 * l2), .ref l0] h11 else mX (mE mtab d) KX11_happens 43 [some (.ref l0), some (.int l1), some (.int l2), some (.int l3)] [.int 0, .int (l1 - l1 / l2 * l2), .ref l0] h11))))) := by
  refine mX_ckc (m := mcl (mE mtab d 174 [.ref s2, .int s1, .int s0] h) 1 30 [some (.ref l0), some (.int l1), some (.int l2), some (.int l3)] []) rfl ?_
  refine mk_cI ?_
  intro x12 h11
  refine mX_br (t := 100) (f := 31) (ls' := [some (.ref l0), some (.int l1), some (.int l2), some (.int l3)]) (st' := []) (h' := h11) rfl ?_ ?_
  · exact mX_ret rfl
  · refine mX_to 3 (k' := 34) (ls' := [some (.ref l0), some (.int l1), some (.int l2), some (.int l3)]) (st' := [.int l2, .int l1, .ref l0]) (h' := h11) rfl ?_
    refine mX_ck (k' := 35) (ls' := [some (.ref l0), some (.int l1), some (.int l2), some (.int l3)]) (st' := [.int (l1 - l1 / l2 * l2), .ref l0]) (h' := h11) rfl ?_
    refine mX_to 2 (k' := 37) (ls' := [some (.ref l0), some (.int l1), some (.int l2), some (.int l3)]) (st' := [.int 6, .int l1, .int (l1 - l1 / l2 * l2), .ref l0]) (h' := h11) rfl ?_
    refine mX_ckt (c := ¬ (6 : Int32) = 0) (k' := 38) (ls' := [some (.ref l0), some (.int l1), some (.int l2), some (.int l3)]) (st' := [.int (l1 - l1 / 6 * 6), .int (l1 - l1 / l2 * l2), .ref l0]) (h' := h11) (by decide) rfl ?_
    refine mX_to 1 (k' := 39) (ls' := [some (.ref l0), some (.int l1), some (.int l2), some (.int l3)]) (st' := [.int 1, .int (l1 - l1 / 6 * 6), .int (l1 - l1 / l2 * l2), .ref l0]) (h' := h11) rfl ?_
    refine mX_br (t := 40) (f := 42) (ls' := [some (.ref l0), some (.int l1), some (.int l2), some (.int l3)]) (st' := [.int (l1 - l1 / l2 * l2), .ref l0]) (h' := h11) rfl ?_ ?_
    · refine mX_to 2 (k' := 43) (ls' := [some (.ref l0), some (.int l1), some (.int l2), some (.int l3)]) (st' := [.int 1, .int (l1 - l1 / l2 * l2), .ref l0]) (h' := h11) rfl ?_
      rfl
    · refine mX_to 1 (k' := 43) (ls' := [some (.ref l0), some (.int l1), some (.int l2), some (.int l3)]) (st' := [.int 0, .int (l1 - l1 / l2 * l2), .ref l0]) (h' := h11) rfl ?_
      rfl
theorem D_X11_happens_43 (d : Nat) (h : MH) (l0 : Nat) (l1 : Int32) (l2 : Int32) (l3 : Int32) (s0 : Int32) (s1 : Int32) (s2 : Nat) : mX (mE mtab d) KX11_happens 43 [some (.ref l0), some (.int l1), some (.int l2), some (.int l3)] [.int s0, .int s1, .ref s2] h = ck (kd h s2 = 12) (cV (mE mtab d 153 [.ref s2, .int s1, .int s0] h) (fun h13 => some (.int 0, h13))) := by
  refine mX_ckc (m := mcl (mE mtab d 153 [.ref s2, .int s1, .int s0] h) 0 44 [some (.ref l0), some (.int l1), some (.int l2), some (.int l3)] []) rfl ?_
  refine mk_cV ?_
  intro h13
  refine mX_to 1 (k' := 100) (ls' := [some (.ref l0), some (.int l1), some (.int l2), some (.int l3)]) (st' := []) (h' := h13) rfl ?_
  exact mX_ret rfl
theorem D_X11_happens (d : Nat) (h : MH) (a0 : Nat) (a1 : Int32) : mE mtab (d + 1) 208 [.ref a0, .int a1] h = ck (kd h a0 = 12) (ck ((kd h (gR h a0 0) = 20 ∨ kd h (gR h a0 0) = 24) ∧ ib (0 : Int32) (ln h (gR h a0 0))) (lt_ (gI h (gR h a0 0) (ix (0 : Int32))) fun v1 => lt_ ((a1 / 6) - (a1 / 6) / 9 * 9) fun v2 => (if (a1 - a1 / 6 * 6) = 0 then (if v1 ≤ 0 then some (.int 0, h) else ck (¬ v1 = 0) ((if (a1 - a1 / 6 * 6) = 1 then mX (mE mtab d) KX11_happens 29 [some (.ref a0), some (.int a1), some (.int v1), some (.int v2)] [.int 1, .int (a1 - a1 / v1 * v1), .ref a0] h else mX (mE mtab d) KX11_happens 29 [some (.ref a0), some (.int a1), some (.int v1), some (.int v2)] [.int 0, .int (a1 - a1 / v1 * v1), .ref a0] h))) else (if (a1 - a1 / 6 * 6) = 1 then (if v1 ≤ 0 then some (.int 0, h) else ck (¬ v1 = 0) ((if (a1 - a1 / 6 * 6) = 1 then mX (mE mtab d) KX11_happens 29 [some (.ref a0), some (.int a1), some (.int v1), some (.int v2)] [.int 1, .int (a1 - a1 / v1 * v1), .ref a0] h else mX (mE mtab d) KX11_happens 29 [some (.ref a0), some (.int a1), some (.int v1), some (.int v2)] [.int 0, .int (a1 - a1 / v1 * v1), .ref a0] h))) else (if (a1 - a1 / 6 * 6) = 2 then ck (kd h a0 = 12) (cI (mE mtab d 185 [.ref a0, .int v2, .int 1] h) (fun x4 h3 => (if x4 = 0 then some (.int 0, h3) else ck (kd h3 a0 = 12) (ck ((kd h3 (gR h3 a0 0) = 20 ∨ kd h3 (gR h3 a0 0) = 24) ∧ ib (13 + v2) (ln h3 (gR h3 a0 0))) (ck (kd h3 (gR h3 a0 0) = 20 ∧ ib (13 + v2) (ln h3 (gR h3 a0 0))) (lt_ (sI h3 (gR h3 a0 0) (ix (13 + v2)) ((gI h3 (gR h3 a0 0) (ix (13 + v2))) - 1)) fun h5 => some (.int 0, h5))))))) else (if (a1 - a1 / 6 * 6) = 3 then (if v1 = 0 then some (.int 0, h) else ck (¬ v1 = 0) (ck (¬ v1 = 0) (ck (kd h a0 = 12) (cI (mE mtab d 180 [.ref a0, .int (a1 - a1 / v1 * v1), .int 0, .int ((a1 / 6) - (a1 / 6) / v1 * v1), .int 1] h) (fun x7 h6 => (if x7 = 0 then some (.int 0, h6) else ck (¬ v1 = 0) (ck (kd h6 a0 = 12) (cV (mE mtab d 153 [.ref a0, .int (a1 - a1 / v1 * v1), .int 0] h6) (fun h8 => ck (¬ v1 = 0) (ck (kd h8 a0 = 12) (cV (mE mtab d 153 [.ref a0, .int ((a1 / 6) - (a1 / 6) / v1 * v1), .int 1] h8) (fun h9 => some (.int 0, h9))))))))))))) else ck (kd h a0 = 12) (ck ((kd h (gR h a0 0) = 20 ∨ kd h (gR h a0 0) = 24) ∧ ib (6 : Int32) (ln h (gR h a0 0))) ((if (gI h (gR h a0 0) (ix (6 : Int32))) < 9999 then ck (kd h a0 = 12) (cV (mE mtab d 199 [.ref a0] h) (fun h10 => some (.int 0, h10))) else some (.int 0, h)))))))))) := by
  refine mE_eq (q := (yX11_happens, cX11_happens, 4, none, KX11_happens)) (C := KX11_happens) (ls := [some (.ref a0), some (.int a1), none, none]) rfl rfl rfl rfl ?_
  refine mX_to 1 (k' := 1) (ls' := [some (.ref a0), some (.int a1), none, none]) (st' := [.ref a0]) (h' := h) rfl ?_
  refine mX_ck (k' := 2) (ls' := [some (.ref a0), some (.int a1), none, none]) (st' := [.ref (gR h a0 0)]) (h' := h) rfl ?_
  refine mX_to 1 (k' := 3) (ls' := [some (.ref a0), some (.int a1), none, none]) (st' := [.int 0, .ref (gR h a0 0)]) (h' := h) rfl ?_
  refine mX_ck (k' := 4) (ls' := [some (.ref a0), some (.int a1), none, none]) (st' := [.int (gI h (gR h a0 0) (ix (0 : Int32)))]) (h' := h) rfl ?_
  refine lt_gen (X := fun v1 : Int32 => mX (mE mtab d) KX11_happens 4 [some (.ref a0), some (.int a1), none, none] [.int v1] h) fun v1 => ?_
  refine mX_to 3 (k' := 7) (ls' := [some (.ref a0), some (.int a1), some (.int v1), none]) (st' := [.int 6, .int a1]) (h' := h) rfl ?_
  refine mX_ckt (c := ¬ (6 : Int32) = 0) (k' := 8) (ls' := [some (.ref a0), some (.int a1), some (.int v1), none]) (st' := [.int (a1 / 6)]) (h' := h) (by decide) rfl ?_
  refine mX_to 1 (k' := 9) (ls' := [some (.ref a0), some (.int a1), some (.int v1), none]) (st' := [.int 9, .int (a1 / 6)]) (h' := h) rfl ?_
  refine mX_ckt (c := ¬ (9 : Int32) = 0) (k' := 10) (ls' := [some (.ref a0), some (.int a1), some (.int v1), none]) (st' := [.int ((a1 / 6) - (a1 / 6) / 9 * 9)]) (h' := h) (by decide) rfl ?_
  refine lt_gen (X := fun v2 : Int32 => mX (mE mtab d) KX11_happens 10 [some (.ref a0), some (.int a1), some (.int v1), none] [.int v2] h) fun v2 => ?_
  refine mX_to 3 (k' := 13) (ls' := [some (.ref a0), some (.int a1), some (.int v1), some (.int v2)]) (st' := [.int 6, .int a1]) (h' := h) rfl ?_
  refine mX_ckt (c := ¬ (6 : Int32) = 0) (k' := 14) (ls' := [some (.ref a0), some (.int a1), some (.int v1), some (.int v2)]) (st' := [.int (a1 - a1 / 6 * 6)]) (h' := h) (by decide) rfl ?_
  refine mX_sw (x := (a1 - a1 / 6 * 6)) (t := 92) (sw := [(0, 15), (1, 15), (2, 45), (3, 61)]) (ls' := [some (.ref a0), some (.int a1), some (.int v1), some (.int v2)]) (st' := []) (h' := h) rfl ?_
  refine msw_cons ?_ ?_
  · refine mX_to 1 (k' := 16) (ls' := [some (.ref a0), some (.int a1), some (.int v1), some (.int v2)]) (st' := [.int v1]) (h' := h) rfl ?_
    refine mX_br (t := 100) (f := 17) (ls' := [some (.ref a0), some (.int a1), some (.int v1), some (.int v2)]) (st' := []) (h' := h) rfl ?_ ?_
    · exact mX_ret rfl
    · refine mX_to 3 (k' := 20) (ls' := [some (.ref a0), some (.int a1), some (.int v1), some (.int v2)]) (st' := [.int v1, .int a1, .ref a0]) (h' := h) rfl ?_
      refine mX_ck (k' := 21) (ls' := [some (.ref a0), some (.int a1), some (.int v1), some (.int v2)]) (st' := [.int (a1 - a1 / v1 * v1), .ref a0]) (h' := h) rfl ?_
      refine mX_to 2 (k' := 23) (ls' := [some (.ref a0), some (.int a1), some (.int v1), some (.int v2)]) (st' := [.int 6, .int a1, .int (a1 - a1 / v1 * v1), .ref a0]) (h' := h) rfl ?_
      refine mX_ckt (c := ¬ (6 : Int32) = 0) (k' := 24) (ls' := [some (.ref a0), some (.int a1), some (.int v1), some (.int v2)]) (st' := [.int (a1 - a1 / 6 * 6), .int (a1 - a1 / v1 * v1), .ref a0]) (h' := h) (by decide) rfl ?_
      refine mX_to 1 (k' := 25) (ls' := [some (.ref a0), some (.int a1), some (.int v1), some (.int v2)]) (st' := [.int 1, .int (a1 - a1 / 6 * 6), .int (a1 - a1 / v1 * v1), .ref a0]) (h' := h) rfl ?_
      refine mX_br (t := 26) (f := 28) (ls' := [some (.ref a0), some (.int a1), some (.int v1), some (.int v2)]) (st' := [.int (a1 - a1 / v1 * v1), .ref a0]) (h' := h) rfl ?_ ?_
      · refine mX_to 2 (k' := 29) (ls' := [some (.ref a0), some (.int a1), some (.int v1), some (.int v2)]) (st' := [.int 1, .int (a1 - a1 / v1 * v1), .ref a0]) (h' := h) rfl ?_
        rfl
      · refine mX_to 1 (k' := 29) (ls' := [some (.ref a0), some (.int a1), some (.int v1), some (.int v2)]) (st' := [.int 0, .int (a1 - a1 / v1 * v1), .ref a0]) (h' := h) rfl ?_
        rfl
  refine msw_cons ?_ ?_
  · refine mX_to 1 (k' := 16) (ls' := [some (.ref a0), some (.int a1), some (.int v1), some (.int v2)]) (st' := [.int v1]) (h' := h) rfl ?_
    refine mX_br (t := 100) (f := 17) (ls' := [some (.ref a0), some (.int a1), some (.int v1), some (.int v2)]) (st' := []) (h' := h) rfl ?_ ?_
    · exact mX_ret rfl
    · refine mX_to 3 (k' := 20) (ls' := [some (.ref a0), some (.int a1), some (.int v1), some (.int v2)]) (st' := [.int v1, .int a1, .ref a0]) (h' := h) rfl ?_
      refine mX_ck (k' := 21) (ls' := [some (.ref a0), some (.int a1), some (.int v1), some (.int v2)]) (st' := [.int (a1 - a1 / v1 * v1), .ref a0]) (h' := h) rfl ?_
      refine mX_to 2 (k' := 23) (ls' := [some (.ref a0), some (.int a1), some (.int v1), some (.int v2)]) (st' := [.int 6, .int a1, .int (a1 - a1 / v1 * v1), .ref a0]) (h' := h) rfl ?_
      refine mX_ckt (c := ¬ (6 : Int32) = 0) (k' := 24) (ls' := [some (.ref a0), some (.int a1), some (.int v1), some (.int v2)]) (st' := [.int (a1 - a1 / 6 * 6), .int (a1 - a1 / v1 * v1), .ref a0]) (h' := h) (by decide) rfl ?_
      refine mX_to 1 (k' := 25) (ls' := [some (.ref a0), some (.int a1), some (.int v1), some (.int v2)]) (st' := [.int 1, .int (a1 - a1 / 6 * 6), .int (a1 - a1 / v1 * v1), .ref a0]) (h' := h) rfl ?_
      refine mX_br (t := 26) (f := 28) (ls' := [some (.ref a0), some (.int a1), some (.int v1), some (.int v2)]) (st' := [.int (a1 - a1 / v1 * v1), .ref a0]) (h' := h) rfl ?_ ?_
      · refine mX_to 2 (k' := 29) (ls' := [some (.ref a0), some (.int a1), some (.int v1), some (.int v2)]) (st' := [.int 1, .int (a1 - a1 / v1 * v1), .ref a0]) (h' := h) rfl ?_
        rfl
      · refine mX_to 1 (k' := 29) (ls' := [some (.ref a0), some (.int a1), some (.int v1), some (.int v2)]) (st' := [.int 0, .int (a1 - a1 / v1 * v1), .ref a0]) (h' := h) rfl ?_
        rfl
  refine msw_cons ?_ ?_
  · refine mX_to 3 (k' := 48) (ls' := [some (.ref a0), some (.int a1), some (.int v1), some (.int v2)]) (st' := [.int 1, .int v2, .ref a0]) (h' := h) rfl ?_
    refine mX_ckc (m := mcl (mE mtab d 185 [.ref a0, .int v2, .int 1] h) 1 49 [some (.ref a0), some (.int a1), some (.int v1), some (.int v2)] []) rfl ?_
    refine mk_cI ?_
    intro x4 h3
    refine mX_br (t := 100) (f := 50) (ls' := [some (.ref a0), some (.int a1), some (.int v1), some (.int v2)]) (st' := []) (h' := h3) rfl ?_ ?_
    · exact mX_ret rfl
    · refine mX_to 1 (k' := 51) (ls' := [some (.ref a0), some (.int a1), some (.int v1), some (.int v2)]) (st' := [.ref a0]) (h' := h3) rfl ?_
      refine mX_ck (k' := 52) (ls' := [some (.ref a0), some (.int a1), some (.int v1), some (.int v2)]) (st' := [.ref (gR h3 a0 0)]) (h' := h3) rfl ?_
      refine mX_to 4 (k' := 56) (ls' := [some (.ref a0), some (.int a1), some (.int v1), some (.int v2)]) (st' := [.int (13 + v2), .ref (gR h3 a0 0), .int (13 + v2), .ref (gR h3 a0 0)]) (h' := h3) rfl ?_
      refine mX_ck (k' := 57) (ls' := [some (.ref a0), some (.int a1), some (.int v1), some (.int v2)]) (st' := [.int (gI h3 (gR h3 a0 0) (ix (13 + v2))), .int (13 + v2), .ref (gR h3 a0 0)]) (h' := h3) rfl ?_
      refine mX_to 2 (k' := 59) (ls' := [some (.ref a0), some (.int a1), some (.int v1), some (.int v2)]) (st' := [.int ((gI h3 (gR h3 a0 0) (ix (13 + v2))) - 1), .int (13 + v2), .ref (gR h3 a0 0)]) (h' := h3) rfl ?_
      refine mX_ck (k' := 60) (ls' := [some (.ref a0), some (.int a1), some (.int v1), some (.int v2)]) (st' := []) (h' := (sI h3 (gR h3 a0 0) (ix (13 + v2)) ((gI h3 (gR h3 a0 0) (ix (13 + v2))) - 1))) rfl ?_
      refine lt_gen (X := fun h5 : MH => mX (mE mtab d) KX11_happens 60 [some (.ref a0), some (.int a1), some (.int v1), some (.int v2)] [] h5) fun h5 => ?_
      refine mX_to 1 (k' := 100) (ls' := [some (.ref a0), some (.int a1), some (.int v1), some (.int v2)]) (st' := []) (h' := h5) rfl ?_
      exact mX_ret rfl
  refine msw_cons ?_ ?_
  · refine mX_to 1 (k' := 62) (ls' := [some (.ref a0), some (.int a1), some (.int v1), some (.int v2)]) (st' := [.int v1]) (h' := h) rfl ?_
    refine mX_br (t := 100) (f := 63) (ls' := [some (.ref a0), some (.int a1), some (.int v1), some (.int v2)]) (st' := []) (h' := h) rfl ?_ ?_
    · exact mX_ret rfl
    · refine mX_to 3 (k' := 66) (ls' := [some (.ref a0), some (.int a1), some (.int v1), some (.int v2)]) (st' := [.int v1, .int a1, .ref a0]) (h' := h) rfl ?_
      refine mX_ck (k' := 67) (ls' := [some (.ref a0), some (.int a1), some (.int v1), some (.int v2)]) (st' := [.int (a1 - a1 / v1 * v1), .ref a0]) (h' := h) rfl ?_
      refine mX_to 3 (k' := 70) (ls' := [some (.ref a0), some (.int a1), some (.int v1), some (.int v2)]) (st' := [.int 6, .int a1, .int 0, .int (a1 - a1 / v1 * v1), .ref a0]) (h' := h) rfl ?_
      refine mX_ckt (c := ¬ (6 : Int32) = 0) (k' := 71) (ls' := [some (.ref a0), some (.int a1), some (.int v1), some (.int v2)]) (st' := [.int (a1 / 6), .int 0, .int (a1 - a1 / v1 * v1), .ref a0]) (h' := h) (by decide) rfl ?_
      refine mX_to 1 (k' := 72) (ls' := [some (.ref a0), some (.int a1), some (.int v1), some (.int v2)]) (st' := [.int v1, .int (a1 / 6), .int 0, .int (a1 - a1 / v1 * v1), .ref a0]) (h' := h) rfl ?_
      refine mX_ck (k' := 73) (ls' := [some (.ref a0), some (.int a1), some (.int v1), some (.int v2)]) (st' := [.int ((a1 / 6) - (a1 / 6) / v1 * v1), .int 0, .int (a1 - a1 / v1 * v1), .ref a0]) (h' := h) rfl ?_
      refine mX_to 1 (k' := 74) (ls' := [some (.ref a0), some (.int a1), some (.int v1), some (.int v2)]) (st' := [.int 1, .int ((a1 / 6) - (a1 / 6) / v1 * v1), .int 0, .int (a1 - a1 / v1 * v1), .ref a0]) (h' := h) rfl ?_
      refine mX_ckc (m := mcl (mE mtab d 180 [.ref a0, .int (a1 - a1 / v1 * v1), .int 0, .int ((a1 / 6) - (a1 / 6) / v1 * v1), .int 1] h) 1 75 [some (.ref a0), some (.int a1), some (.int v1), some (.int v2)] []) rfl ?_
      refine mk_cI ?_
      intro x7 h6
      refine mX_br (t := 76) (f := 77) (ls' := [some (.ref a0), some (.int a1), some (.int v1), some (.int v2)]) (st' := []) (h' := h6) rfl ?_ ?_
      · refine mX_to 1 (k' := 100) (ls' := [some (.ref a0), some (.int a1), some (.int v1), some (.int v2)]) (st' := []) (h' := h6) rfl ?_
        exact mX_ret rfl
      · refine mX_to 3 (k' := 80) (ls' := [some (.ref a0), some (.int a1), some (.int v1), some (.int v2)]) (st' := [.int v1, .int a1, .ref a0]) (h' := h6) rfl ?_
        refine mX_ck (k' := 81) (ls' := [some (.ref a0), some (.int a1), some (.int v1), some (.int v2)]) (st' := [.int (a1 - a1 / v1 * v1), .ref a0]) (h' := h6) rfl ?_
        refine mX_to 1 (k' := 82) (ls' := [some (.ref a0), some (.int a1), some (.int v1), some (.int v2)]) (st' := [.int 0, .int (a1 - a1 / v1 * v1), .ref a0]) (h' := h6) rfl ?_
        refine mX_ckc (m := mcl (mE mtab d 153 [.ref a0, .int (a1 - a1 / v1 * v1), .int 0] h6) 0 83 [some (.ref a0), some (.int a1), some (.int v1), some (.int v2)] []) rfl ?_
        refine mk_cV ?_
        intro h8
        refine mX_to 3 (k' := 86) (ls' := [some (.ref a0), some (.int a1), some (.int v1), some (.int v2)]) (st' := [.int 6, .int a1, .ref a0]) (h' := h8) rfl ?_
        refine mX_ckt (c := ¬ (6 : Int32) = 0) (k' := 87) (ls' := [some (.ref a0), some (.int a1), some (.int v1), some (.int v2)]) (st' := [.int (a1 / 6), .ref a0]) (h' := h8) (by decide) rfl ?_
        refine mX_to 1 (k' := 88) (ls' := [some (.ref a0), some (.int a1), some (.int v1), some (.int v2)]) (st' := [.int v1, .int (a1 / 6), .ref a0]) (h' := h8) rfl ?_
        refine mX_ck (k' := 89) (ls' := [some (.ref a0), some (.int a1), some (.int v1), some (.int v2)]) (st' := [.int ((a1 / 6) - (a1 / 6) / v1 * v1), .ref a0]) (h' := h8) rfl ?_
        refine mX_to 1 (k' := 90) (ls' := [some (.ref a0), some (.int a1), some (.int v1), some (.int v2)]) (st' := [.int 1, .int ((a1 / 6) - (a1 / 6) / v1 * v1), .ref a0]) (h' := h8) rfl ?_
        refine mX_ckc (m := mcl (mE mtab d 153 [.ref a0, .int ((a1 / 6) - (a1 / 6) / v1 * v1), .int 1] h8) 0 91 [some (.ref a0), some (.int a1), some (.int v1), some (.int v2)] []) rfl ?_
        refine mk_cV ?_
        intro h9
        refine mX_to 1 (k' := 100) (ls' := [some (.ref a0), some (.int a1), some (.int v1), some (.int v2)]) (st' := []) (h' := h9) rfl ?_
        exact mX_ret rfl
  refine msw_nil ?_
  refine mX_to 1 (k' := 93) (ls' := [some (.ref a0), some (.int a1), some (.int v1), some (.int v2)]) (st' := [.ref a0]) (h' := h) rfl ?_
  refine mX_ck (k' := 94) (ls' := [some (.ref a0), some (.int a1), some (.int v1), some (.int v2)]) (st' := [.ref (gR h a0 0)]) (h' := h) rfl ?_
  refine mX_to 1 (k' := 95) (ls' := [some (.ref a0), some (.int a1), some (.int v1), some (.int v2)]) (st' := [.int 6, .ref (gR h a0 0)]) (h' := h) rfl ?_
  refine mX_ck (k' := 96) (ls' := [some (.ref a0), some (.int a1), some (.int v1), some (.int v2)]) (st' := [.int (gI h (gR h a0 0) (ix (6 : Int32)))]) (h' := h) rfl ?_
  refine mX_to 1 (k' := 97) (ls' := [some (.ref a0), some (.int a1), some (.int v1), some (.int v2)]) (st' := [.int 9999, .int (gI h (gR h a0 0) (ix (6 : Int32)))]) (h' := h) rfl ?_
  refine mX_br (t := 98) (f := 100) (ls' := [some (.ref a0), some (.int a1), some (.int v1), some (.int v2)]) (st' := []) (h' := h) rfl ?_ ?_
  · refine mX_to 1 (k' := 99) (ls' := [some (.ref a0), some (.int a1), some (.int v1), some (.int v2)]) (st' := [.ref a0]) (h' := h) rfl ?_
    refine mX_ckc (m := mcl (mE mtab d 199 [.ref a0] h) 0 100 [some (.ref a0), some (.int a1), some (.int v1), some (.int v2)] []) rfl ?_
    refine mk_cV ?_
    intro h10
    exact mX_ret rfl
  · exact mX_ret rfl
theorem D_X11_years_25 (d : Nat) (h : MH) (l0 : Nat) (l1 : Int32) (l2 : Int32) (l3 : Int32) (o4 : Option Value) : mX (mE mtab d) KX11_years 25 [some (.ref l0), some (.int l1), some (.int l2), some (.int l3), o4] [] h = (if l3 < l2 then ck (kd h l0 = 12) (ck ((kd h (gR h l0 0) = 20 ∨ kd h (gR h l0 0) = 24) ∧ ib (7 : Int32) (ln h (gR h l0 0))) (lt_ (gI h (gR h l0 0) (ix (7 : Int32))) fun v7 => ck (kd h l0 = 12) (cV (mE mtab d 194 [.ref l0] h) (fun h8 => ck (kd h8 l0 = 12) (cV (mE mtab d 208 [.ref l0, .int v7] h8) (fun h9 => mX (mE mtab d) KX11_years 25 [some (.ref l0), some (.int l1), some (.int l2), some (.int (l3 + 1)), some (.int v7)] [] h9)))))) else ck (kd h l0 = 12) (ck ((kd h (gR h l0 0) = 20 ∨ kd h (gR h l0 0) = 24) ∧ ib (6 : Int32) (ln h (gR h l0 0))) (some (.int (gI h (gR h l0 0) (ix (6 : Int32))), h)))) := by
  refine mX_to 2 (k' := 27) (ls' := [some (.ref l0), some (.int l1), some (.int l2), some (.int l3), o4]) (st' := [.int l2, .int l3]) (h' := h) rfl ?_
  refine mX_br (t := 28) (f := 40) (ls' := [some (.ref l0), some (.int l1), some (.int l2), some (.int l3), o4]) (st' := []) (h' := h) rfl ?_ ?_
  · refine mX_to 1 (k' := 29) (ls' := [some (.ref l0), some (.int l1), some (.int l2), some (.int l3), o4]) (st' := [.ref l0]) (h' := h) rfl ?_
    refine mX_ck (k' := 30) (ls' := [some (.ref l0), some (.int l1), some (.int l2), some (.int l3), o4]) (st' := [.ref (gR h l0 0)]) (h' := h) rfl ?_
    refine mX_to 1 (k' := 31) (ls' := [some (.ref l0), some (.int l1), some (.int l2), some (.int l3), o4]) (st' := [.int 7, .ref (gR h l0 0)]) (h' := h) rfl ?_
    refine mX_ck (k' := 32) (ls' := [some (.ref l0), some (.int l1), some (.int l2), some (.int l3), o4]) (st' := [.int (gI h (gR h l0 0) (ix (7 : Int32)))]) (h' := h) rfl ?_
    refine lt_gen (X := fun v7 : Int32 => mX (mE mtab d) KX11_years 32 [some (.ref l0), some (.int l1), some (.int l2), some (.int l3), o4] [.int v7] h) fun v7 => ?_
    refine mX_to 2 (k' := 34) (ls' := [some (.ref l0), some (.int l1), some (.int l2), some (.int l3), some (.int v7)]) (st' := [.ref l0]) (h' := h) rfl ?_
    refine mX_ckc (m := mcl (mE mtab d 194 [.ref l0] h) 0 35 [some (.ref l0), some (.int l1), some (.int l2), some (.int l3), some (.int v7)] []) rfl ?_
    refine mk_cV ?_
    intro h8
    refine mX_to 2 (k' := 37) (ls' := [some (.ref l0), some (.int l1), some (.int l2), some (.int l3), some (.int v7)]) (st' := [.int v7, .ref l0]) (h' := h8) rfl ?_
    refine mX_ckc (m := mcl (mE mtab d 208 [.ref l0, .int v7] h8) 0 38 [some (.ref l0), some (.int l1), some (.int l2), some (.int l3), some (.int v7)] []) rfl ?_
    refine mk_cV ?_
    intro h9
    refine mX_to 2 (k' := 25) (ls' := [some (.ref l0), some (.int l1), some (.int l2), some (.int (l3 + 1)), some (.int v7)]) (st' := []) (h' := h9) rfl ?_
    rfl
  · refine mX_to 1 (k' := 41) (ls' := [some (.ref l0), some (.int l1), some (.int l2), some (.int l3), o4]) (st' := [.ref l0]) (h' := h) rfl ?_
    refine mX_ck (k' := 42) (ls' := [some (.ref l0), some (.int l1), some (.int l2), some (.int l3), o4]) (st' := [.ref (gR h l0 0)]) (h' := h) rfl ?_
    refine mX_to 1 (k' := 43) (ls' := [some (.ref l0), some (.int l1), some (.int l2), some (.int l3), o4]) (st' := [.int 6, .ref (gR h l0 0)]) (h' := h) rfl ?_
    refine mX_ck (k' := 44) (ls' := [some (.ref l0), some (.int l1), some (.int l2), some (.int l3), o4]) (st' := [.int (gI h (gR h l0 0) (ix (6 : Int32)))]) (h' := h) rfl ?_
    exact mX_reti rfl
theorem D_X11_years (d : Nat) (h : MH) (a0 : Nat) (a1 : Int32) (a2 : Int32) : mE mtab (d + 1) 209 [.ref a0, .int a1, .int a2] h = cI (mE mtab d 14 [.int a1, .int 0, .int 9999] h) (fun x2 h1 => (if x2 = 0 then some (.int (-1), h1) else cI (mE mtab d 14 [.int a2, .int 1, .int 40] h1) (fun x4 h3 => (if x4 = 0 then some (.int (-1), h3) else ck (kd h3 a0 = 12) (cV (mE mtab d 175 [.ref a0] h3) (fun h5 => ck (kd h5 a0 = 12) (ck (kd h5 (gR h5 a0 0) = 20 ∧ ib (7 : Int32) (ln h5 (gR h5 a0 0))) (lt_ (sI h5 (gR h5 a0 0) (ix (7 : Int32)) ((a1 * 2) + 349)) fun h6 => mX (mE mtab d) KX11_years 25 [some (.ref a0), some (.int a1), some (.int a2), some (.int 0), none] [] h6)))))))) := by
  refine mE_eq (q := (yX11_years, cX11_years, 5, (some .int), KX11_years)) (C := KX11_years) (ls := [some (.ref a0), some (.int a1), some (.int a2), none, none]) rfl rfl rfl rfl ?_
  refine mX_to 3 (k' := 3) (ls' := [some (.ref a0), some (.int a1), some (.int a2), none, none]) (st' := [.int 9999, .int 0, .int a1]) (h' := h) rfl ?_
  refine mX_cI (o := mE mtab d 14 [.int a1, .int 0, .int 9999] h) (k' := 4) (ls' := [some (.ref a0), some (.int a1), some (.int a2), none, none]) (st' := []) rfl ?_
  intro x2 h1
  refine mX_br (t := 10) (f := 5) (ls' := [some (.ref a0), some (.int a1), some (.int a2), none, none]) (st' := []) (h' := h1) rfl ?_ ?_
  · refine mX_to 1 (k' := 11) (ls' := [some (.ref a0), some (.int a1), some (.int a2), none, none]) (st' := [.int (-1)]) (h' := h1) rfl ?_
    exact mX_reti rfl
  · refine mX_to 3 (k' := 8) (ls' := [some (.ref a0), some (.int a1), some (.int a2), none, none]) (st' := [.int 40, .int 1, .int a2]) (h' := h1) rfl ?_
    refine mX_cI (o := mE mtab d 14 [.int a2, .int 1, .int 40] h1) (k' := 9) (ls' := [some (.ref a0), some (.int a1), some (.int a2), none, none]) (st' := []) rfl ?_
    intro x4 h3
    refine mX_br (t := 10) (f := 12) (ls' := [some (.ref a0), some (.int a1), some (.int a2), none, none]) (st' := []) (h' := h3) rfl ?_ ?_
    · refine mX_to 1 (k' := 11) (ls' := [some (.ref a0), some (.int a1), some (.int a2), none, none]) (st' := [.int (-1)]) (h' := h3) rfl ?_
      exact mX_reti rfl
    · refine mX_to 1 (k' := 13) (ls' := [some (.ref a0), some (.int a1), some (.int a2), none, none]) (st' := [.ref a0]) (h' := h3) rfl ?_
      refine mX_ckc (m := mcl (mE mtab d 175 [.ref a0] h3) 0 14 [some (.ref a0), some (.int a1), some (.int a2), none, none] []) rfl ?_
      refine mk_cV ?_
      intro h5
      refine mX_to 1 (k' := 15) (ls' := [some (.ref a0), some (.int a1), some (.int a2), none, none]) (st' := [.ref a0]) (h' := h5) rfl ?_
      refine mX_ck (k' := 16) (ls' := [some (.ref a0), some (.int a1), some (.int a2), none, none]) (st' := [.ref (gR h5 a0 0)]) (h' := h5) rfl ?_
      refine mX_to 6 (k' := 22) (ls' := [some (.ref a0), some (.int a1), some (.int a2), none, none]) (st' := [.int ((a1 * 2) + 349), .int 7, .ref (gR h5 a0 0)]) (h' := h5) rfl ?_
      refine mX_ck (k' := 23) (ls' := [some (.ref a0), some (.int a1), some (.int a2), none, none]) (st' := []) (h' := (sI h5 (gR h5 a0 0) (ix (7 : Int32)) ((a1 * 2) + 349))) rfl ?_
      refine lt_gen (X := fun h6 : MH => mX (mE mtab d) KX11_years 23 [some (.ref a0), some (.int a1), some (.int a2), none, none] [] h6) fun h6 => ?_
      refine mX_to 2 (k' := 25) (ls' := [some (.ref a0), some (.int a1), some (.int a2), some (.int 0), none]) (st' := []) (h' := h6) rfl ?_
      rfl
