/-! EQUATIONS OF THE CLASS AS IT STANDS, where it differs (written by wip/gen/gen99u.py) -/
theorem E_X4_init (d : Nat) (h : MH) (a0 : Nat) : mE jtab (d + 1) 5 [.ref a0] h = ck (¬ a0 = 0) (lt_ (mA h 8 6) fun h1 => ck (kd h1 (mN h) = 8) (cV (mE jtab d 4 [.ref (mN h)] h1) (fun h2 => ck (kd h2 a0 = 5) (lt_ (sR h2 a0 0 (mN h)) fun h3 => ck (¬ (24 : Int32) < 0 ∧ ix (24 : Int32) ≤ 1000000) (lt_ (mA h3 20 (ix (24 : Int32))) fun h4 => ck (kd h4 a0 = 5) (lt_ (sR h4 a0 1 (mN h3)) fun h5 => ck (¬ (24 : Int32) < 0 ∧ ix (24 : Int32) ≤ 1000000) (lt_ (mA h5 20 (ix (24 : Int32))) fun h6 => ck (kd h6 a0 = 5) (lt_ (sR h6 a0 2 (mN h5)) fun h7 => ck (¬ (24 : Int32) < 0 ∧ ix (24 : Int32) ≤ 1000000) (lt_ (mA h7 20 (ix (24 : Int32))) fun h8 => ck (kd h8 a0 = 5) (lt_ (sR h8 a0 3 (mN h7)) fun h9 => ck (¬ (300 : Int32) < 0 ∧ ix (300 : Int32) ≤ 1000000) (lt_ (mA h9 20 (ix (300 : Int32))) fun h10 => ck (kd h10 a0 = 5) (lt_ (sR h10 a0 4 (mN h9)) fun h11 => ck (kd h11 a0 = 5) (lt_ (sI h11 a0 5 0) fun h12 => ck (kd h12 a0 = 5) (lt_ (sI h12 a0 6 0) fun h13 => ck (kd h13 a0 = 5) (lt_ (sI h13 a0 7 0) fun h14 => ck (kd h14 a0 = 5 ∧ ((0 : Int32) = 0 ∨ (0 : Int32) = 1)) (lt_ (sI h14 a0 8 0) fun h15 => ck (kd h15 a0 = 5) (lt_ (sR h15 a0 9 0) fun h16 => ck (kd h16 a0 = 5) (lt_ (sR h16 a0 10 0) fun h17 => ck (kd h17 a0 = 5) (lt_ (sI h17 a0 11 (-1)) fun h18 => ck (kd h18 a0 = 5) (lt_ (sI h18 a0 12 (-1)) fun h19 => some (.int 0, h19))))))))))))))))))))) := by
  refine mE_eq (q := (yX4_init, cX4_init, 1, none, JX4_init)) (C := JX4_init) (ls := [some (.ref a0)]) rfl rfl rfl rfl ?_
  refine mX_to 1 (k' := 1) (ls' := [some (.ref a0)]) (st' := [.ref a0]) (h' := h) rfl ?_
  refine mX_ck (k' := 2) (ls' := [some (.ref a0)]) (st' := []) (h' := h) rfl ?_
  refine mX_to 1 (k' := 3) (ls' := [some (.ref a0)]) (st' := [.ref a0]) (h' := h) rfl ?_
  refine mX_to 1 (k' := 4) (ls' := [some (.ref a0)]) (st' := [.ref (mN h), .ref a0]) (h' := (mA h 8 6)) rfl ?_
  refine lt_gen (X := fun h1 : MH => mX (mE jtab d) JX4_init 4 [some (.ref a0)] [.ref (mN h), .ref a0] h1) fun h1 => ?_
  refine mX_to 1 (k' := 5) (ls' := [some (.ref a0)]) (st' := [.ref (mN h), .ref (mN h), .ref a0]) (h' := h1) rfl ?_
  refine mX_ckc (m := mcl (mE jtab d 4 [.ref (mN h)] h1) 0 6 [some (.ref a0)] [.ref (mN h), .ref a0]) rfl ?_
  refine mk_cV ?_
  intro h2
  refine mX_ck (k' := 7) (ls' := [some (.ref a0)]) (st' := []) (h' := (sR h2 a0 0 (mN h))) rfl ?_
  refine lt_gen (X := fun h3 : MH => mX (mE jtab d) JX4_init 7 [some (.ref a0)] [] h3) fun h3 => ?_
  refine mX_to 2 (k' := 9) (ls' := [some (.ref a0)]) (st' := [.int 24, .ref a0]) (h' := h3) rfl ?_
  refine mX_ck (k' := 10) (ls' := [some (.ref a0)]) (st' := [.ref (mN h3), .ref a0]) (h' := (mA h3 20 (ix (24 : Int32)))) rfl ?_
  refine lt_gen (X := fun h4 : MH => mX (mE jtab d) JX4_init 10 [some (.ref a0)] [.ref (mN h3), .ref a0] h4) fun h4 => ?_
  refine mX_ck (k' := 11) (ls' := [some (.ref a0)]) (st' := []) (h' := (sR h4 a0 1 (mN h3))) rfl ?_
  refine lt_gen (X := fun h5 : MH => mX (mE jtab d) JX4_init 11 [some (.ref a0)] [] h5) fun h5 => ?_
  refine mX_to 2 (k' := 13) (ls' := [some (.ref a0)]) (st' := [.int 24, .ref a0]) (h' := h5) rfl ?_
  refine mX_ck (k' := 14) (ls' := [some (.ref a0)]) (st' := [.ref (mN h5), .ref a0]) (h' := (mA h5 20 (ix (24 : Int32)))) rfl ?_
  refine lt_gen (X := fun h6 : MH => mX (mE jtab d) JX4_init 14 [some (.ref a0)] [.ref (mN h5), .ref a0] h6) fun h6 => ?_
  refine mX_ck (k' := 15) (ls' := [some (.ref a0)]) (st' := []) (h' := (sR h6 a0 2 (mN h5))) rfl ?_
  refine lt_gen (X := fun h7 : MH => mX (mE jtab d) JX4_init 15 [some (.ref a0)] [] h7) fun h7 => ?_
  refine mX_to 2 (k' := 17) (ls' := [some (.ref a0)]) (st' := [.int 24, .ref a0]) (h' := h7) rfl ?_
  refine mX_ck (k' := 18) (ls' := [some (.ref a0)]) (st' := [.ref (mN h7), .ref a0]) (h' := (mA h7 20 (ix (24 : Int32)))) rfl ?_
  refine lt_gen (X := fun h8 : MH => mX (mE jtab d) JX4_init 18 [some (.ref a0)] [.ref (mN h7), .ref a0] h8) fun h8 => ?_
  refine mX_ck (k' := 19) (ls' := [some (.ref a0)]) (st' := []) (h' := (sR h8 a0 3 (mN h7))) rfl ?_
  refine lt_gen (X := fun h9 : MH => mX (mE jtab d) JX4_init 19 [some (.ref a0)] [] h9) fun h9 => ?_
  refine mX_to 2 (k' := 21) (ls' := [some (.ref a0)]) (st' := [.int 300, .ref a0]) (h' := h9) rfl ?_
  refine mX_ck (k' := 22) (ls' := [some (.ref a0)]) (st' := [.ref (mN h9), .ref a0]) (h' := (mA h9 20 (ix (300 : Int32)))) rfl ?_
  refine lt_gen (X := fun h10 : MH => mX (mE jtab d) JX4_init 22 [some (.ref a0)] [.ref (mN h9), .ref a0] h10) fun h10 => ?_
  refine mX_ck (k' := 23) (ls' := [some (.ref a0)]) (st' := []) (h' := (sR h10 a0 4 (mN h9))) rfl ?_
  refine lt_gen (X := fun h11 : MH => mX (mE jtab d) JX4_init 23 [some (.ref a0)] [] h11) fun h11 => ?_
  refine mX_to 2 (k' := 25) (ls' := [some (.ref a0)]) (st' := [.int 0, .ref a0]) (h' := h11) rfl ?_
  refine mX_ck (k' := 26) (ls' := [some (.ref a0)]) (st' := []) (h' := (sI h11 a0 5 0)) rfl ?_
  refine lt_gen (X := fun h12 : MH => mX (mE jtab d) JX4_init 26 [some (.ref a0)] [] h12) fun h12 => ?_
  refine mX_to 2 (k' := 28) (ls' := [some (.ref a0)]) (st' := [.int 0, .ref a0]) (h' := h12) rfl ?_
  refine mX_ck (k' := 29) (ls' := [some (.ref a0)]) (st' := []) (h' := (sI h12 a0 6 0)) rfl ?_
  refine lt_gen (X := fun h13 : MH => mX (mE jtab d) JX4_init 29 [some (.ref a0)] [] h13) fun h13 => ?_
  refine mX_to 2 (k' := 31) (ls' := [some (.ref a0)]) (st' := [.int 0, .ref a0]) (h' := h13) rfl ?_
  refine mX_ck (k' := 32) (ls' := [some (.ref a0)]) (st' := []) (h' := (sI h13 a0 7 0)) rfl ?_
  refine lt_gen (X := fun h14 : MH => mX (mE jtab d) JX4_init 32 [some (.ref a0)] [] h14) fun h14 => ?_
  refine mX_to 2 (k' := 34) (ls' := [some (.ref a0)]) (st' := [.int 0, .ref a0]) (h' := h14) rfl ?_
  refine mX_ck (k' := 35) (ls' := [some (.ref a0)]) (st' := []) (h' := (sI h14 a0 8 0)) rfl ?_
  refine lt_gen (X := fun h15 : MH => mX (mE jtab d) JX4_init 35 [some (.ref a0)] [] h15) fun h15 => ?_
  refine mX_to 2 (k' := 37) (ls' := [some (.ref a0)]) (st' := [.ref 0, .ref a0]) (h' := h15) rfl ?_
  refine mX_ck (k' := 38) (ls' := [some (.ref a0)]) (st' := []) (h' := (sR h15 a0 9 0)) rfl ?_
  refine lt_gen (X := fun h16 : MH => mX (mE jtab d) JX4_init 38 [some (.ref a0)] [] h16) fun h16 => ?_
  refine mX_to 2 (k' := 40) (ls' := [some (.ref a0)]) (st' := [.ref 0, .ref a0]) (h' := h16) rfl ?_
  refine mX_ck (k' := 41) (ls' := [some (.ref a0)]) (st' := []) (h' := (sR h16 a0 10 0)) rfl ?_
  refine lt_gen (X := fun h17 : MH => mX (mE jtab d) JX4_init 41 [some (.ref a0)] [] h17) fun h17 => ?_
  refine mX_to 2 (k' := 43) (ls' := [some (.ref a0)]) (st' := [.int (-1), .ref a0]) (h' := h17) rfl ?_
  refine mX_ck (k' := 44) (ls' := [some (.ref a0)]) (st' := []) (h' := (sI h17 a0 11 (-1))) rfl ?_
  refine lt_gen (X := fun h18 : MH => mX (mE jtab d) JX4_init 44 [some (.ref a0)] [] h18) fun h18 => ?_
  refine mX_to 2 (k' := 46) (ls' := [some (.ref a0)]) (st' := [.int (-1), .ref a0]) (h' := h18) rfl ?_
  refine mX_ck (k' := 47) (ls' := [some (.ref a0)]) (st' := []) (h' := (sI h18 a0 12 (-1))) rfl ?_
  refine lt_gen (X := fun h19 : MH => mX (mE jtab d) JX4_init 47 [some (.ref a0)] [] h19) fun h19 => ?_
  exact mX_ret rfl
theorem E_X10_init (d : Nat) (h : MH) (a0 : Nat) : mE jtab (d + 1) 8 [.ref a0] h = ck (¬ a0 = 0) (lt_ (mA h 1 9) fun h1 => ck (kd h1 (mN h) = 1) (cV (mE jtab d 3 [.ref (mN h)] h1) (fun h2 => ck (kd h2 a0 = 11) (lt_ (sR h2 a0 0 (mN h)) fun h3 => lt_ (mA h3 1 9) fun h4 => ck (kd h4 (mN h3) = 1) (cV (mE jtab d 3 [.ref (mN h3)] h4) (fun h5 => ck (kd h5 a0 = 11) (lt_ (sR h5 a0 1 (mN h3)) fun h6 => lt_ (mA h6 10 11) fun h7 => ck (kd h7 (mN h6) = 10) (cV (mE jtab d 0 [.ref (mN h6)] h7) (fun h8 => ck (kd h8 a0 = 11) (lt_ (sR h8 a0 2 (mN h6)) fun h9 => lt_ (mA h9 5 13) fun h10 => ck (kd h10 (mN h9) = 5) (cV (mE jtab d 5 [.ref (mN h9)] h10) (fun h11 => ck (kd h11 a0 = 11) (lt_ (sR h11 a0 3 (mN h9)) fun h12 => ck (kd h12 a0 = 11) (ck (kd h12 (gR h12 a0 3) = 5) (ck (kd h12 a0 = 11) (lt_ (sR h12 a0 4 (gR h12 (gR h12 a0 3) 0)) fun h13 => lt_ (mA h13 2 5) fun h14 => ck (kd h14 (mN h13) = 2) (cV (mE jtab d 7 [.ref (mN h13)] h14) (fun h15 => ck (kd h15 a0 = 11) (lt_ (sR h15 a0 5 (mN h13)) fun h16 => ck (kd h16 a0 = 11) (lt_ (sR h16 a0 6 0) fun h17 => some (.int 0, h17))))))))))))))))))))) := by
  refine mE_eq (q := (yX10_init, cX10_init, 1, none, JX10_init)) (C := JX10_init) (ls := [some (.ref a0)]) rfl rfl rfl rfl ?_
  refine mX_to 1 (k' := 1) (ls' := [some (.ref a0)]) (st' := [.ref a0]) (h' := h) rfl ?_
  refine mX_ck (k' := 2) (ls' := [some (.ref a0)]) (st' := []) (h' := h) rfl ?_
  refine mX_to 1 (k' := 3) (ls' := [some (.ref a0)]) (st' := [.ref a0]) (h' := h) rfl ?_
  refine mX_to 1 (k' := 4) (ls' := [some (.ref a0)]) (st' := [.ref (mN h), .ref a0]) (h' := (mA h 1 9)) rfl ?_
  refine lt_gen (X := fun h1 : MH => mX (mE jtab d) JX10_init 4 [some (.ref a0)] [.ref (mN h), .ref a0] h1) fun h1 => ?_
  refine mX_to 1 (k' := 5) (ls' := [some (.ref a0)]) (st' := [.ref (mN h), .ref (mN h), .ref a0]) (h' := h1) rfl ?_
  refine mX_ckc (m := mcl (mE jtab d 3 [.ref (mN h)] h1) 0 6 [some (.ref a0)] [.ref (mN h), .ref a0]) rfl ?_
  refine mk_cV ?_
  intro h2
  refine mX_ck (k' := 7) (ls' := [some (.ref a0)]) (st' := []) (h' := (sR h2 a0 0 (mN h))) rfl ?_
  refine lt_gen (X := fun h3 : MH => mX (mE jtab d) JX10_init 7 [some (.ref a0)] [] h3) fun h3 => ?_
  refine mX_to 1 (k' := 8) (ls' := [some (.ref a0)]) (st' := [.ref a0]) (h' := h3) rfl ?_
  refine mX_to 1 (k' := 9) (ls' := [some (.ref a0)]) (st' := [.ref (mN h3), .ref a0]) (h' := (mA h3 1 9)) rfl ?_
  refine lt_gen (X := fun h4 : MH => mX (mE jtab d) JX10_init 9 [some (.ref a0)] [.ref (mN h3), .ref a0] h4) fun h4 => ?_
  refine mX_to 1 (k' := 10) (ls' := [some (.ref a0)]) (st' := [.ref (mN h3), .ref (mN h3), .ref a0]) (h' := h4) rfl ?_
  refine mX_ckc (m := mcl (mE jtab d 3 [.ref (mN h3)] h4) 0 11 [some (.ref a0)] [.ref (mN h3), .ref a0]) rfl ?_
  refine mk_cV ?_
  intro h5
  refine mX_ck (k' := 12) (ls' := [some (.ref a0)]) (st' := []) (h' := (sR h5 a0 1 (mN h3))) rfl ?_
  refine lt_gen (X := fun h6 : MH => mX (mE jtab d) JX10_init 12 [some (.ref a0)] [] h6) fun h6 => ?_
  refine mX_to 1 (k' := 13) (ls' := [some (.ref a0)]) (st' := [.ref a0]) (h' := h6) rfl ?_
  refine mX_to 1 (k' := 14) (ls' := [some (.ref a0)]) (st' := [.ref (mN h6), .ref a0]) (h' := (mA h6 10 11)) rfl ?_
  refine lt_gen (X := fun h7 : MH => mX (mE jtab d) JX10_init 14 [some (.ref a0)] [.ref (mN h6), .ref a0] h7) fun h7 => ?_
  refine mX_to 1 (k' := 15) (ls' := [some (.ref a0)]) (st' := [.ref (mN h6), .ref (mN h6), .ref a0]) (h' := h7) rfl ?_
  refine mX_ckc (m := mcl (mE jtab d 0 [.ref (mN h6)] h7) 0 16 [some (.ref a0)] [.ref (mN h6), .ref a0]) rfl ?_
  refine mk_cV ?_
  intro h8
  refine mX_ck (k' := 17) (ls' := [some (.ref a0)]) (st' := []) (h' := (sR h8 a0 2 (mN h6))) rfl ?_
  refine lt_gen (X := fun h9 : MH => mX (mE jtab d) JX10_init 17 [some (.ref a0)] [] h9) fun h9 => ?_
  refine mX_to 1 (k' := 18) (ls' := [some (.ref a0)]) (st' := [.ref a0]) (h' := h9) rfl ?_
  refine mX_to 1 (k' := 19) (ls' := [some (.ref a0)]) (st' := [.ref (mN h9), .ref a0]) (h' := (mA h9 5 13)) rfl ?_
  refine lt_gen (X := fun h10 : MH => mX (mE jtab d) JX10_init 19 [some (.ref a0)] [.ref (mN h9), .ref a0] h10) fun h10 => ?_
  refine mX_to 1 (k' := 20) (ls' := [some (.ref a0)]) (st' := [.ref (mN h9), .ref (mN h9), .ref a0]) (h' := h10) rfl ?_
  refine mX_ckc (m := mcl (mE jtab d 5 [.ref (mN h9)] h10) 0 21 [some (.ref a0)] [.ref (mN h9), .ref a0]) rfl ?_
  refine mk_cV ?_
  intro h11
  refine mX_ck (k' := 22) (ls' := [some (.ref a0)]) (st' := []) (h' := (sR h11 a0 3 (mN h9))) rfl ?_
  refine lt_gen (X := fun h12 : MH => mX (mE jtab d) JX10_init 22 [some (.ref a0)] [] h12) fun h12 => ?_
  refine mX_to 2 (k' := 24) (ls' := [some (.ref a0)]) (st' := [.ref a0, .ref a0]) (h' := h12) rfl ?_
  refine mX_ck (k' := 25) (ls' := [some (.ref a0)]) (st' := [.ref (gR h12 a0 3), .ref a0]) (h' := h12) rfl ?_
  refine mX_ck (k' := 26) (ls' := [some (.ref a0)]) (st' := [.ref (gR h12 (gR h12 a0 3) 0), .ref a0]) (h' := h12) rfl ?_
  refine mX_ck (k' := 27) (ls' := [some (.ref a0)]) (st' := []) (h' := (sR h12 a0 4 (gR h12 (gR h12 a0 3) 0))) rfl ?_
  refine lt_gen (X := fun h13 : MH => mX (mE jtab d) JX10_init 27 [some (.ref a0)] [] h13) fun h13 => ?_
  refine mX_to 1 (k' := 28) (ls' := [some (.ref a0)]) (st' := [.ref a0]) (h' := h13) rfl ?_
  refine mX_to 1 (k' := 29) (ls' := [some (.ref a0)]) (st' := [.ref (mN h13), .ref a0]) (h' := (mA h13 2 5)) rfl ?_
  refine lt_gen (X := fun h14 : MH => mX (mE jtab d) JX10_init 29 [some (.ref a0)] [.ref (mN h13), .ref a0] h14) fun h14 => ?_
  refine mX_to 1 (k' := 30) (ls' := [some (.ref a0)]) (st' := [.ref (mN h13), .ref (mN h13), .ref a0]) (h' := h14) rfl ?_
  refine mX_ckc (m := mcl (mE jtab d 7 [.ref (mN h13)] h14) 0 31 [some (.ref a0)] [.ref (mN h13), .ref a0]) rfl ?_
  refine mk_cV ?_
  intro h15
  refine mX_ck (k' := 32) (ls' := [some (.ref a0)]) (st' := []) (h' := (sR h15 a0 5 (mN h13))) rfl ?_
  refine lt_gen (X := fun h16 : MH => mX (mE jtab d) JX10_init 32 [some (.ref a0)] [] h16) fun h16 => ?_
  refine mX_to 2 (k' := 34) (ls' := [some (.ref a0)]) (st' := [.ref 0, .ref a0]) (h' := h16) rfl ?_
  refine mX_ck (k' := 35) (ls' := [some (.ref a0)]) (st' := []) (h' := (sR h16 a0 6 0)) rfl ?_
  refine lt_gen (X := fun h17 : MH => mX (mE jtab d) JX10_init 35 [some (.ref a0)] [] h17) fun h17 => ?_
  exact mX_ret rfl
theorem E_X10_errands (d : Nat) (h : MH) (a0 : Nat) (a1 : Int32) (a2 : Int32) : mE jtab (d + 1) 242 [.ref a0, .int a1, .int a2] h = (if a2 < (-1) then some (.int (-2), h) else ck (kd h a0 = 11) (cR (mE jtab d 338 [.ref a0, .int a1, .int 1] h) (fun x2 h1 => (if a2 = (-1) then ck (kd h1 x2 = 6) (cI (mE jtab d 240 [.ref x2] h1) (fun x4 h3 => some (.int x4, h3))) else ck (kd h1 x2 = 6) (cI (mE jtab d 241 [.ref x2, .int a2] h1) (fun x6 h5 => some (.int x6, h5))))))) := by
  refine mE_eq (q := (yX10_errands, cX10_errands, 4, (some .int), JX10_errands)) (C := JX10_errands) (ls := [some (.ref a0), some (.int a1), some (.int a2), none]) rfl rfl rfl rfl ?_
  refine mX_to 2 (k' := 2) (ls' := [some (.ref a0), some (.int a1), some (.int a2), none]) (st' := [.int (-1), .int a2]) (h' := h) rfl ?_
  refine mX_br (t := 3) (f := 5) (ls' := [some (.ref a0), some (.int a1), some (.int a2), none]) (st' := []) (h' := h) rfl ?_ ?_
  · refine mX_to 1 (k' := 4) (ls' := [some (.ref a0), some (.int a1), some (.int a2), none]) (st' := [.int (-2)]) (h' := h) rfl ?_
    exact mX_reti rfl
  · refine mX_to 3 (k' := 8) (ls' := [some (.ref a0), some (.int a1), some (.int a2), none]) (st' := [.int 1, .int a1, .ref a0]) (h' := h) rfl ?_
    refine mX_ckc (m := mcl (mE jtab d 338 [.ref a0, .int a1, .int 1] h) 3 9 [some (.ref a0), some (.int a1), some (.int a2), none] []) rfl ?_
    refine mk_cR ?_
    intro x2 h1
    refine mX_to 3 (k' := 12) (ls' := [some (.ref a0), some (.int a1), some (.int a2), some (.ref x2)]) (st' := [.int (-1), .int a2]) (h' := h1) rfl ?_
    refine mX_br (t := 13) (f := 16) (ls' := [some (.ref a0), some (.int a1), some (.int a2), some (.ref x2)]) (st' := []) (h' := h1) rfl ?_ ?_
    · refine mX_to 1 (k' := 14) (ls' := [some (.ref a0), some (.int a1), some (.int a2), some (.ref x2)]) (st' := [.ref x2]) (h' := h1) rfl ?_
      refine mX_ckc (m := mcl (mE jtab d 240 [.ref x2] h1) 1 15 [some (.ref a0), some (.int a1), some (.int a2), some (.ref x2)] []) rfl ?_
      refine mk_cI ?_
      intro x4 h3
      refine mX_to 1 (k' := 19) (ls' := [some (.ref a0), some (.int a1), some (.int a2), some (.ref x2)]) (st' := [.int x4]) (h' := h3) rfl ?_
      exact mX_reti rfl
    · refine mX_to 2 (k' := 18) (ls' := [some (.ref a0), some (.int a1), some (.int a2), some (.ref x2)]) (st' := [.int a2, .ref x2]) (h' := h1) rfl ?_
      refine mX_ckc (m := mcl (mE jtab d 241 [.ref x2, .int a2] h1) 1 19 [some (.ref a0), some (.int a1), some (.int a2), some (.ref x2)] []) rfl ?_
      refine mk_cI ?_
      intro x6 h5
      exact mX_reti rfl
theorem E_X10_where (d : Nat) (h : MH) (a0 : Nat) (a1 : Int32) : mE jtab (d + 1) 255 [.ref a0, .int a1] h = ck (kd h a0 = 11) (cR (mE jtab d 338 [.ref a0, .int a1, .int 0] h) (fun x2 h1 => ck (kd h1 x2 = 6) (some (.int (gI h1 x2 2), h1)))) := by
  refine mE_eq (q := (yX10_where, cX10_where, 2, (some .int), JX10_where)) (C := JX10_where) (ls := [some (.ref a0), some (.int a1)]) rfl rfl rfl rfl ?_
  refine mX_to 3 (k' := 3) (ls' := [some (.ref a0), some (.int a1)]) (st' := [.int 0, .int a1, .ref a0]) (h' := h) rfl ?_
  refine mX_ckc (m := mcl (mE jtab d 338 [.ref a0, .int a1, .int 0] h) 3 4 [some (.ref a0), some (.int a1)] []) rfl ?_
  refine mk_cR ?_
  intro x2 h1
  refine mX_ck (k' := 5) (ls' := [some (.ref a0), some (.int a1)]) (st' := [.int (gI h1 x2 2)]) (h' := h1) rfl ?_
  exact mX_reti rfl
theorem E_X10_explored_8 (d : Nat) (h : MH) (l0 : Nat) (l1 : Int32) (l2 : Int32) : mX (mE jtab d) JX10_explored 8 [some (.ref l0), some (.int l1), some (.int l2)] [] h = ck (kd h l0 = 11) (ck (kd h l0 = 11) (ck (kd h (gR h l0 0) = 1) (ck (kd h (gR h l0 2) = 10) (cV (mE jtab d 225 [.ref (gR h l0 2), .ref (gR h (gR h l0 0) 0)] h) (fun h4 => ck (kd h4 l0 = 11) (ck (kd h4 l0 = 11) (ck (kd h4 (gR h4 l0 6) = 6) (cV (mE jtab d 239 [.ref (gR h4 l0 6), .ref (gR h4 l0 2), .int l1, .int l2] h4) (fun h5 => ck (kd h5 l0 = 11) (some (.ref (gR h5 l0 6), h5))))))))))) := by
  refine mX_to 1 (k' := 9) (ls' := [some (.ref l0), some (.int l1), some (.int l2)]) (st' := [.ref l0]) (h' := h) rfl ?_
  refine mX_ck (k' := 10) (ls' := [some (.ref l0), some (.int l1), some (.int l2)]) (st' := [.ref (gR h l0 2)]) (h' := h) rfl ?_
  refine mX_to 1 (k' := 11) (ls' := [some (.ref l0), some (.int l1), some (.int l2)]) (st' := [.ref l0, .ref (gR h l0 2)]) (h' := h) rfl ?_
  refine mX_ck (k' := 12) (ls' := [some (.ref l0), some (.int l1), some (.int l2)]) (st' := [.ref (gR h l0 0), .ref (gR h l0 2)]) (h' := h) rfl ?_
  refine mX_ck (k' := 13) (ls' := [some (.ref l0), some (.int l1), some (.int l2)]) (st' := [.ref (gR h (gR h l0 0) 0), .ref (gR h l0 2)]) (h' := h) rfl ?_
  refine mX_ckc (m := mcl (mE jtab d 225 [.ref (gR h l0 2), .ref (gR h (gR h l0 0) 0)] h) 0 14 [some (.ref l0), some (.int l1), some (.int l2)] []) rfl ?_
  refine mk_cV ?_
  intro h4
  refine mX_to 1 (k' := 15) (ls' := [some (.ref l0), some (.int l1), some (.int l2)]) (st' := [.ref l0]) (h' := h4) rfl ?_
  refine mX_ck (k' := 16) (ls' := [some (.ref l0), some (.int l1), some (.int l2)]) (st' := [.ref (gR h4 l0 6)]) (h' := h4) rfl ?_
  refine mX_to 1 (k' := 17) (ls' := [some (.ref l0), some (.int l1), some (.int l2)]) (st' := [.ref l0, .ref (gR h4 l0 6)]) (h' := h4) rfl ?_
  refine mX_ck (k' := 18) (ls' := [some (.ref l0), some (.int l1), some (.int l2)]) (st' := [.ref (gR h4 l0 2), .ref (gR h4 l0 6)]) (h' := h4) rfl ?_
  refine mX_to 2 (k' := 20) (ls' := [some (.ref l0), some (.int l1), some (.int l2)]) (st' := [.int l2, .int l1, .ref (gR h4 l0 2), .ref (gR h4 l0 6)]) (h' := h4) rfl ?_
  refine mX_ckc (m := mcl (mE jtab d 239 [.ref (gR h4 l0 6), .ref (gR h4 l0 2), .int l1, .int l2] h4) 0 21 [some (.ref l0), some (.int l1), some (.int l2)] []) rfl ?_
  refine mk_cV ?_
  intro h5
  refine mX_to 1 (k' := 22) (ls' := [some (.ref l0), some (.int l1), some (.int l2)]) (st' := [.ref l0]) (h' := h5) rfl ?_
  refine mX_ck (k' := 23) (ls' := [some (.ref l0), some (.int l1), some (.int l2)]) (st' := [.ref (gR h5 l0 6)]) (h' := h5) rfl ?_
  exact mX_ret rfl
theorem E_X10_explored (d : Nat) (h : MH) (a0 : Nat) (a1 : Int32) (a2 : Int32) : mE jtab (d + 1) 338 [.ref a0, .int a1, .int a2] h = ck (kd h a0 = 11) ((if (gR h a0 6) = 0 then lt_ (mA h 6 4) fun h1 => ck (kd h1 (mN h) = 6) (cV (mE jtab d 6 [.ref (mN h)] h1) (fun h2 => ck (kd h2 a0 = 11) (lt_ (sR h2 a0 6 (mN h)) fun h3 => mX (mE jtab d) JX10_explored 8 [some (.ref a0), some (.int a1), some (.int a2)] [] h3))) else mX (mE jtab d) JX10_explored 8 [some (.ref a0), some (.int a1), some (.int a2)] [] h)) := by
  refine mE_eq (q := (yX10_explored, cX10_explored, 3, (some (.object "BoroughBeam$Search")), JX10_explored)) (C := JX10_explored) (ls := [some (.ref a0), some (.int a1), some (.int a2)]) rfl rfl rfl rfl ?_
  refine mX_to 1 (k' := 1) (ls' := [some (.ref a0), some (.int a1), some (.int a2)]) (st' := [.ref a0]) (h' := h) rfl ?_
  refine mX_ck (k' := 2) (ls' := [some (.ref a0), some (.int a1), some (.int a2)]) (st' := [.ref (gR h a0 6)]) (h' := h) rfl ?_
  refine mX_br (t := 3) (f := 8) (ls' := [some (.ref a0), some (.int a1), some (.int a2)]) (st' := []) (h' := h) rfl ?_ ?_
  · refine mX_to 1 (k' := 4) (ls' := [some (.ref a0), some (.int a1), some (.int a2)]) (st' := [.ref a0]) (h' := h) rfl ?_
    refine mX_to 1 (k' := 5) (ls' := [some (.ref a0), some (.int a1), some (.int a2)]) (st' := [.ref (mN h), .ref a0]) (h' := (mA h 6 4)) rfl ?_
    refine lt_gen (X := fun h1 : MH => mX (mE jtab d) JX10_explored 5 [some (.ref a0), some (.int a1), some (.int a2)] [.ref (mN h), .ref a0] h1) fun h1 => ?_
    refine mX_to 1 (k' := 6) (ls' := [some (.ref a0), some (.int a1), some (.int a2)]) (st' := [.ref (mN h), .ref (mN h), .ref a0]) (h' := h1) rfl ?_
    refine mX_ckc (m := mcl (mE jtab d 6 [.ref (mN h)] h1) 0 7 [some (.ref a0), some (.int a1), some (.int a2)] [.ref (mN h), .ref a0]) rfl ?_
    refine mk_cV ?_
    intro h2
    refine mX_ck (k' := 8) (ls' := [some (.ref a0), some (.int a1), some (.int a2)]) (st' := []) (h' := (sR h2 a0 6 (mN h))) rfl ?_
    refine lt_gen (X := fun h3 : MH => mX (mE jtab d) JX10_explored 8 [some (.ref a0), some (.int a1), some (.int a2)] [] h3) fun h3 => ?_
    rfl
  · rfl
