/-! EQUATIONS OF THE METHODS (written by wip/gen/dgen.py) -/
theorem D_X9_init (d : Nat) (h : MH) (a0 : Nat) : mE mtab (d + 1) 0 [.ref a0] h = ck (¬ a0 = 0) (ck (kd h a0 = 10) (lt_ (sI h a0 0 0) fun h1 => ck (¬ (4 : Int32) < 0 ∧ ix (4 : Int32) ≤ 1000000) (lt_ (mA h1 20 (ix (4 : Int32))) fun h2 => ck (kd h2 a0 = 10) (lt_ (sR h2 a0 1 (mN h1)) fun h3 => ck (¬ (4 : Int32) < 0 ∧ ix (4 : Int32) ≤ 1000000) (lt_ (mA h3 20 (ix (4 : Int32))) fun h4 => ck (kd h4 a0 = 10) (lt_ (sR h4 a0 2 (mN h3)) fun h5 => ck (¬ (4 : Int32) < 0 ∧ ix (4 : Int32) ≤ 1000000) (lt_ (mA h5 20 (ix (4 : Int32))) fun h6 => ck (kd h6 a0 = 10) (lt_ (sR h6 a0 3 (mN h5)) fun h7 => ck (¬ (9 : Int32) < 0 ∧ ix (9 : Int32) ≤ 1000000) (lt_ (mA h7 20 (ix (9 : Int32))) fun h8 => ck (kd h8 a0 = 10) (lt_ (sR h8 a0 4 (mN h7)) fun h9 => ck (kd h9 a0 = 10) (lt_ (sI h9 a0 5 0) fun h10 => ck (kd h10 a0 = 10) (lt_ (sI h10 a0 6 349) fun h11 => ck (¬ (30 : Int32) < 0 ∧ ix (30 : Int32) ≤ 1000000) (lt_ (mA h11 20 (ix (30 : Int32))) fun h12 => ck (kd h12 a0 = 10) (lt_ (sR h12 a0 7 (mN h11)) fun h13 => ck (kd h13 a0 = 10) (lt_ (sI h13 a0 8 0) fun h14 => ck (kd h14 a0 = 10) (lt_ (sR h14 a0 9 0) fun h15 => ck (¬ (7 : Int32) < 0 ∧ ix (7 : Int32) ≤ 1000000) (lt_ (mA h15 20 (ix (7 : Int32))) fun h16 => ck (kd h16 a0 = 10) (lt_ (sR h16 a0 10 (mN h15)) fun h17 => some (.int 0, h17))))))))))))))))))) := by
  refine mE_eq (q := (yX9_init, cX9_init, 1, none, KX9_init)) (C := KX9_init) (ls := [some (.ref a0)]) rfl rfl rfl rfl ?_
  refine mX_to 1 (k' := 1) (ls' := [some (.ref a0)]) (st' := [.ref a0]) (h' := h) rfl ?_
  refine mX_ck (k' := 2) (ls' := [some (.ref a0)]) (st' := []) (h' := h) rfl ?_
  refine mX_to 2 (k' := 4) (ls' := [some (.ref a0)]) (st' := [.int 0, .ref a0]) (h' := h) rfl ?_
  refine mX_ck (k' := 5) (ls' := [some (.ref a0)]) (st' := []) (h' := (sI h a0 0 0)) rfl ?_
  refine lt_gen (X := fun h1 : MH => mX (mE mtab d) KX9_init 5 [some (.ref a0)] [] h1) fun h1 => ?_
  refine mX_to 2 (k' := 7) (ls' := [some (.ref a0)]) (st' := [.int 4, .ref a0]) (h' := h1) rfl ?_
  refine mX_ck (k' := 8) (ls' := [some (.ref a0)]) (st' := [.ref (mN h1), .ref a0]) (h' := (mA h1 20 (ix (4 : Int32)))) rfl ?_
  refine lt_gen (X := fun h2 : MH => mX (mE mtab d) KX9_init 8 [some (.ref a0)] [.ref (mN h1), .ref a0] h2) fun h2 => ?_
  refine mX_ck (k' := 9) (ls' := [some (.ref a0)]) (st' := []) (h' := (sR h2 a0 1 (mN h1))) rfl ?_
  refine lt_gen (X := fun h3 : MH => mX (mE mtab d) KX9_init 9 [some (.ref a0)] [] h3) fun h3 => ?_
  refine mX_to 2 (k' := 11) (ls' := [some (.ref a0)]) (st' := [.int 4, .ref a0]) (h' := h3) rfl ?_
  refine mX_ck (k' := 12) (ls' := [some (.ref a0)]) (st' := [.ref (mN h3), .ref a0]) (h' := (mA h3 20 (ix (4 : Int32)))) rfl ?_
  refine lt_gen (X := fun h4 : MH => mX (mE mtab d) KX9_init 12 [some (.ref a0)] [.ref (mN h3), .ref a0] h4) fun h4 => ?_
  refine mX_ck (k' := 13) (ls' := [some (.ref a0)]) (st' := []) (h' := (sR h4 a0 2 (mN h3))) rfl ?_
  refine lt_gen (X := fun h5 : MH => mX (mE mtab d) KX9_init 13 [some (.ref a0)] [] h5) fun h5 => ?_
  refine mX_to 2 (k' := 15) (ls' := [some (.ref a0)]) (st' := [.int 4, .ref a0]) (h' := h5) rfl ?_
  refine mX_ck (k' := 16) (ls' := [some (.ref a0)]) (st' := [.ref (mN h5), .ref a0]) (h' := (mA h5 20 (ix (4 : Int32)))) rfl ?_
  refine lt_gen (X := fun h6 : MH => mX (mE mtab d) KX9_init 16 [some (.ref a0)] [.ref (mN h5), .ref a0] h6) fun h6 => ?_
  refine mX_ck (k' := 17) (ls' := [some (.ref a0)]) (st' := []) (h' := (sR h6 a0 3 (mN h5))) rfl ?_
  refine lt_gen (X := fun h7 : MH => mX (mE mtab d) KX9_init 17 [some (.ref a0)] [] h7) fun h7 => ?_
  refine mX_to 2 (k' := 19) (ls' := [some (.ref a0)]) (st' := [.int 9, .ref a0]) (h' := h7) rfl ?_
  refine mX_ck (k' := 20) (ls' := [some (.ref a0)]) (st' := [.ref (mN h7), .ref a0]) (h' := (mA h7 20 (ix (9 : Int32)))) rfl ?_
  refine lt_gen (X := fun h8 : MH => mX (mE mtab d) KX9_init 20 [some (.ref a0)] [.ref (mN h7), .ref a0] h8) fun h8 => ?_
  refine mX_ck (k' := 21) (ls' := [some (.ref a0)]) (st' := []) (h' := (sR h8 a0 4 (mN h7))) rfl ?_
  refine lt_gen (X := fun h9 : MH => mX (mE mtab d) KX9_init 21 [some (.ref a0)] [] h9) fun h9 => ?_
  refine mX_to 2 (k' := 23) (ls' := [some (.ref a0)]) (st' := [.int 0, .ref a0]) (h' := h9) rfl ?_
  refine mX_ck (k' := 24) (ls' := [some (.ref a0)]) (st' := []) (h' := (sI h9 a0 5 0)) rfl ?_
  refine lt_gen (X := fun h10 : MH => mX (mE mtab d) KX9_init 24 [some (.ref a0)] [] h10) fun h10 => ?_
  refine mX_to 2 (k' := 26) (ls' := [some (.ref a0)]) (st' := [.int 349, .ref a0]) (h' := h10) rfl ?_
  refine mX_ck (k' := 27) (ls' := [some (.ref a0)]) (st' := []) (h' := (sI h10 a0 6 349)) rfl ?_
  refine lt_gen (X := fun h11 : MH => mX (mE mtab d) KX9_init 27 [some (.ref a0)] [] h11) fun h11 => ?_
  refine mX_to 2 (k' := 29) (ls' := [some (.ref a0)]) (st' := [.int 30, .ref a0]) (h' := h11) rfl ?_
  refine mX_ck (k' := 30) (ls' := [some (.ref a0)]) (st' := [.ref (mN h11), .ref a0]) (h' := (mA h11 20 (ix (30 : Int32)))) rfl ?_
  refine lt_gen (X := fun h12 : MH => mX (mE mtab d) KX9_init 30 [some (.ref a0)] [.ref (mN h11), .ref a0] h12) fun h12 => ?_
  refine mX_ck (k' := 31) (ls' := [some (.ref a0)]) (st' := []) (h' := (sR h12 a0 7 (mN h11))) rfl ?_
  refine lt_gen (X := fun h13 : MH => mX (mE mtab d) KX9_init 31 [some (.ref a0)] [] h13) fun h13 => ?_
  refine mX_to 2 (k' := 33) (ls' := [some (.ref a0)]) (st' := [.int 0, .ref a0]) (h' := h13) rfl ?_
  refine mX_ck (k' := 34) (ls' := [some (.ref a0)]) (st' := []) (h' := (sI h13 a0 8 0)) rfl ?_
  refine lt_gen (X := fun h14 : MH => mX (mE mtab d) KX9_init 34 [some (.ref a0)] [] h14) fun h14 => ?_
  refine mX_to 2 (k' := 36) (ls' := [some (.ref a0)]) (st' := [.ref 0, .ref a0]) (h' := h14) rfl ?_
  refine mX_ck (k' := 37) (ls' := [some (.ref a0)]) (st' := []) (h' := (sR h14 a0 9 0)) rfl ?_
  refine lt_gen (X := fun h15 : MH => mX (mE mtab d) KX9_init 37 [some (.ref a0)] [] h15) fun h15 => ?_
  refine mX_to 2 (k' := 39) (ls' := [some (.ref a0)]) (st' := [.int 7, .ref a0]) (h' := h15) rfl ?_
  refine mX_ck (k' := 40) (ls' := [some (.ref a0)]) (st' := [.ref (mN h15), .ref a0]) (h' := (mA h15 20 (ix (7 : Int32)))) rfl ?_
  refine lt_gen (X := fun h16 : MH => mX (mE mtab d) KX9_init 40 [some (.ref a0)] [.ref (mN h15), .ref a0] h16) fun h16 => ?_
  refine mX_ck (k' := 41) (ls' := [some (.ref a0)]) (st' := []) (h' := (sR h16 a0 10 (mN h15))) rfl ?_
  refine lt_gen (X := fun h17 : MH => mX (mE mtab d) KX9_init 41 [some (.ref a0)] [] h17) fun h17 => ?_
  exact mX_ret rfl
theorem D_X6_init (d : Nat) (h : MH) (a0 : Nat) : mE mtab (d + 1) 1 [.ref a0] h = ck (¬ a0 = 0) (ck (¬ (1457 : Int32) < 0 ∧ ix (1457 : Int32) ≤ 1000000) (lt_ (mA h 20 (ix (1457 : Int32))) fun h1 => ck (kd h1 a0 = 7) (lt_ (sR h1 a0 0 (mN h)) fun h2 => ck (kd h2 a0 = 7) (lt_ (sI h2 a0 1 0) fun h3 => ck (kd h3 a0 = 7) (lt_ (sI h3 a0 2 0) fun h4 => some (.int 0, h4)))))) := by
  refine mE_eq (q := (yX6_init, cX6_init, 1, none, KX6_init)) (C := KX6_init) (ls := [some (.ref a0)]) rfl rfl rfl rfl ?_
  refine mX_to 1 (k' := 1) (ls' := [some (.ref a0)]) (st' := [.ref a0]) (h' := h) rfl ?_
  refine mX_ck (k' := 2) (ls' := [some (.ref a0)]) (st' := []) (h' := h) rfl ?_
  refine mX_to 2 (k' := 4) (ls' := [some (.ref a0)]) (st' := [.int 1457, .ref a0]) (h' := h) rfl ?_
  refine mX_ck (k' := 5) (ls' := [some (.ref a0)]) (st' := [.ref (mN h), .ref a0]) (h' := (mA h 20 (ix (1457 : Int32)))) rfl ?_
  refine lt_gen (X := fun h1 : MH => mX (mE mtab d) KX6_init 5 [some (.ref a0)] [.ref (mN h), .ref a0] h1) fun h1 => ?_
  refine mX_ck (k' := 6) (ls' := [some (.ref a0)]) (st' := []) (h' := (sR h1 a0 0 (mN h))) rfl ?_
  refine lt_gen (X := fun h2 : MH => mX (mE mtab d) KX6_init 6 [some (.ref a0)] [] h2) fun h2 => ?_
  refine mX_to 2 (k' := 8) (ls' := [some (.ref a0)]) (st' := [.int 0, .ref a0]) (h' := h2) rfl ?_
  refine mX_ck (k' := 9) (ls' := [some (.ref a0)]) (st' := []) (h' := (sI h2 a0 1 0)) rfl ?_
  refine lt_gen (X := fun h3 : MH => mX (mE mtab d) KX6_init 9 [some (.ref a0)] [] h3) fun h3 => ?_
  refine mX_to 2 (k' := 11) (ls' := [some (.ref a0)]) (st' := [.int 0, .ref a0]) (h' := h3) rfl ?_
  refine mX_ck (k' := 12) (ls' := [some (.ref a0)]) (st' := []) (h' := (sI h3 a0 2 0)) rfl ?_
  refine lt_gen (X := fun h4 : MH => mX (mE mtab d) KX6_init 12 [some (.ref a0)] [] h4) fun h4 => ?_
  exact mX_ret rfl
theorem D_X2_init (d : Nat) (h : MH) (a0 : Nat) : mE mtab (d + 1) 2 [.ref a0] h = ck (¬ a0 = 0) (ck (¬ (4 : Int32) < 0 ∧ ix (4 : Int32) ≤ 1000000) (lt_ (mA h 20 (ix (4 : Int32))) fun h1 => ck (kd h1 a0 = 3) (lt_ (sR h1 a0 0 (mN h)) fun h2 => ck (¬ (4 : Int32) < 0 ∧ ix (4 : Int32) ≤ 1000000) (lt_ (mA h2 20 (ix (4 : Int32))) fun h3 => ck (kd h3 a0 = 3) (lt_ (sR h3 a0 1 (mN h2)) fun h4 => ck (¬ (4 : Int32) < 0 ∧ ix (4 : Int32) ≤ 1000000) (lt_ (mA h4 20 (ix (4 : Int32))) fun h5 => ck (kd h5 a0 = 3) (lt_ (sR h5 a0 2 (mN h4)) fun h6 => ck (kd h6 a0 = 3) (lt_ (sI h6 a0 3 0) fun h7 => some (.int 0, h7))))))))) := by
  refine mE_eq (q := (yX2_init, cX2_init, 1, none, KX2_init)) (C := KX2_init) (ls := [some (.ref a0)]) rfl rfl rfl rfl ?_
  refine mX_to 1 (k' := 1) (ls' := [some (.ref a0)]) (st' := [.ref a0]) (h' := h) rfl ?_
  refine mX_ck (k' := 2) (ls' := [some (.ref a0)]) (st' := []) (h' := h) rfl ?_
  refine mX_to 2 (k' := 4) (ls' := [some (.ref a0)]) (st' := [.int 4, .ref a0]) (h' := h) rfl ?_
  refine mX_ck (k' := 5) (ls' := [some (.ref a0)]) (st' := [.ref (mN h), .ref a0]) (h' := (mA h 20 (ix (4 : Int32)))) rfl ?_
  refine lt_gen (X := fun h1 : MH => mX (mE mtab d) KX2_init 5 [some (.ref a0)] [.ref (mN h), .ref a0] h1) fun h1 => ?_
  refine mX_ck (k' := 6) (ls' := [some (.ref a0)]) (st' := []) (h' := (sR h1 a0 0 (mN h))) rfl ?_
  refine lt_gen (X := fun h2 : MH => mX (mE mtab d) KX2_init 6 [some (.ref a0)] [] h2) fun h2 => ?_
  refine mX_to 2 (k' := 8) (ls' := [some (.ref a0)]) (st' := [.int 4, .ref a0]) (h' := h2) rfl ?_
  refine mX_ck (k' := 9) (ls' := [some (.ref a0)]) (st' := [.ref (mN h2), .ref a0]) (h' := (mA h2 20 (ix (4 : Int32)))) rfl ?_
  refine lt_gen (X := fun h3 : MH => mX (mE mtab d) KX2_init 9 [some (.ref a0)] [.ref (mN h2), .ref a0] h3) fun h3 => ?_
  refine mX_ck (k' := 10) (ls' := [some (.ref a0)]) (st' := []) (h' := (sR h3 a0 1 (mN h2))) rfl ?_
  refine lt_gen (X := fun h4 : MH => mX (mE mtab d) KX2_init 10 [some (.ref a0)] [] h4) fun h4 => ?_
  refine mX_to 2 (k' := 12) (ls' := [some (.ref a0)]) (st' := [.int 4, .ref a0]) (h' := h4) rfl ?_
  refine mX_ck (k' := 13) (ls' := [some (.ref a0)]) (st' := [.ref (mN h4), .ref a0]) (h' := (mA h4 20 (ix (4 : Int32)))) rfl ?_
  refine lt_gen (X := fun h5 : MH => mX (mE mtab d) KX2_init 13 [some (.ref a0)] [.ref (mN h4), .ref a0] h5) fun h5 => ?_
  refine mX_ck (k' := 14) (ls' := [some (.ref a0)]) (st' := []) (h' := (sR h5 a0 2 (mN h4))) rfl ?_
  refine lt_gen (X := fun h6 : MH => mX (mE mtab d) KX2_init 14 [some (.ref a0)] [] h6) fun h6 => ?_
  refine mX_to 2 (k' := 16) (ls' := [some (.ref a0)]) (st' := [.int 0, .ref a0]) (h' := h6) rfl ?_
  refine mX_ck (k' := 17) (ls' := [some (.ref a0)]) (st' := []) (h' := (sI h6 a0 3 0)) rfl ?_
  refine lt_gen (X := fun h7 : MH => mX (mE mtab d) KX2_init 17 [some (.ref a0)] [] h7) fun h7 => ?_
  exact mX_ret rfl
theorem D_X0_init (d : Nat) (h : MH) (a0 : Nat) : mE mtab (d + 1) 3 [.ref a0] h = ck (¬ a0 = 0) (lt_ (mA h 10 11) fun h1 => ck (kd h1 (mN h) = 10) (cV (mE mtab d 0 [.ref (mN h)] h1) (fun h2 => ck (kd h2 a0 = 1) (lt_ (sR h2 a0 0 (mN h)) fun h3 => lt_ (mA h3 7 3) fun h4 => ck (kd h4 (mN h3) = 7) (cV (mE mtab d 1 [.ref (mN h3)] h4) (fun h5 => ck (kd h5 a0 = 1) (lt_ (sR h5 a0 1 (mN h3)) fun h6 => lt_ (mA h6 3 4) fun h7 => ck (kd h7 (mN h6) = 3) (cV (mE mtab d 2 [.ref (mN h6)] h7) (fun h8 => ck (kd h8 a0 = 1) (lt_ (sR h8 a0 2 (mN h6)) fun h9 => ck (¬ (4 : Int32) < 0 ∧ ix (4 : Int32) ≤ 1000000) (lt_ (mA h9 23 (ix (4 : Int32))) fun h10 => ck (kd h10 a0 = 1) (lt_ (sR h10 a0 3 (mN h9)) fun h11 => ck (kd h11 a0 = 1) (lt_ (sI h11 a0 4 0) fun h12 => ck (kd h12 a0 = 1) (lt_ (sI h12 a0 5 (-1)) fun h13 => ck (¬ (8 : Int32) < 0 ∧ ix (8 : Int32) ≤ 1000000) (lt_ (mA h13 20 (ix (8 : Int32))) fun h14 => ck (kd h14 a0 = 1) (lt_ (sR h14 a0 6 (mN h13)) fun h15 => ck (¬ (8 : Int32) < 0 ∧ ix (8 : Int32) ≤ 1000000) (lt_ (mA h15 20 (ix (8 : Int32))) fun h16 => ck (kd h16 a0 = 1) (lt_ (sR h16 a0 7 (mN h15)) fun h17 => ck (kd h17 a0 = 1) (lt_ (sI h17 a0 8 0) fun h18 => some (.int 0, h18)))))))))))))))))))) := by
  refine mE_eq (q := (yX0_init, cX0_init, 1, none, KX0_init)) (C := KX0_init) (ls := [some (.ref a0)]) rfl rfl rfl rfl ?_
  refine mX_to 1 (k' := 1) (ls' := [some (.ref a0)]) (st' := [.ref a0]) (h' := h) rfl ?_
  refine mX_ck (k' := 2) (ls' := [some (.ref a0)]) (st' := []) (h' := h) rfl ?_
  refine mX_to 1 (k' := 3) (ls' := [some (.ref a0)]) (st' := [.ref a0]) (h' := h) rfl ?_
  refine mX_to 1 (k' := 4) (ls' := [some (.ref a0)]) (st' := [.ref (mN h), .ref a0]) (h' := (mA h 10 11)) rfl ?_
  refine lt_gen (X := fun h1 : MH => mX (mE mtab d) KX0_init 4 [some (.ref a0)] [.ref (mN h), .ref a0] h1) fun h1 => ?_
  refine mX_to 1 (k' := 5) (ls' := [some (.ref a0)]) (st' := [.ref (mN h), .ref (mN h), .ref a0]) (h' := h1) rfl ?_
  refine mX_ckc (m := mcl (mE mtab d 0 [.ref (mN h)] h1) 0 6 [some (.ref a0)] [.ref (mN h), .ref a0]) rfl ?_
  refine mk_cV ?_
  intro h2
  refine mX_ck (k' := 7) (ls' := [some (.ref a0)]) (st' := []) (h' := (sR h2 a0 0 (mN h))) rfl ?_
  refine lt_gen (X := fun h3 : MH => mX (mE mtab d) KX0_init 7 [some (.ref a0)] [] h3) fun h3 => ?_
  refine mX_to 1 (k' := 8) (ls' := [some (.ref a0)]) (st' := [.ref a0]) (h' := h3) rfl ?_
  refine mX_to 1 (k' := 9) (ls' := [some (.ref a0)]) (st' := [.ref (mN h3), .ref a0]) (h' := (mA h3 7 3)) rfl ?_
  refine lt_gen (X := fun h4 : MH => mX (mE mtab d) KX0_init 9 [some (.ref a0)] [.ref (mN h3), .ref a0] h4) fun h4 => ?_
  refine mX_to 1 (k' := 10) (ls' := [some (.ref a0)]) (st' := [.ref (mN h3), .ref (mN h3), .ref a0]) (h' := h4) rfl ?_
  refine mX_ckc (m := mcl (mE mtab d 1 [.ref (mN h3)] h4) 0 11 [some (.ref a0)] [.ref (mN h3), .ref a0]) rfl ?_
  refine mk_cV ?_
  intro h5
  refine mX_ck (k' := 12) (ls' := [some (.ref a0)]) (st' := []) (h' := (sR h5 a0 1 (mN h3))) rfl ?_
  refine lt_gen (X := fun h6 : MH => mX (mE mtab d) KX0_init 12 [some (.ref a0)] [] h6) fun h6 => ?_
  refine mX_to 1 (k' := 13) (ls' := [some (.ref a0)]) (st' := [.ref a0]) (h' := h6) rfl ?_
  refine mX_to 1 (k' := 14) (ls' := [some (.ref a0)]) (st' := [.ref (mN h6), .ref a0]) (h' := (mA h6 3 4)) rfl ?_
  refine lt_gen (X := fun h7 : MH => mX (mE mtab d) KX0_init 14 [some (.ref a0)] [.ref (mN h6), .ref a0] h7) fun h7 => ?_
  refine mX_to 1 (k' := 15) (ls' := [some (.ref a0)]) (st' := [.ref (mN h6), .ref (mN h6), .ref a0]) (h' := h7) rfl ?_
  refine mX_ckc (m := mcl (mE mtab d 2 [.ref (mN h6)] h7) 0 16 [some (.ref a0)] [.ref (mN h6), .ref a0]) rfl ?_
  refine mk_cV ?_
  intro h8
  refine mX_ck (k' := 17) (ls' := [some (.ref a0)]) (st' := []) (h' := (sR h8 a0 2 (mN h6))) rfl ?_
  refine lt_gen (X := fun h9 : MH => mX (mE mtab d) KX0_init 17 [some (.ref a0)] [] h9) fun h9 => ?_
  refine mX_to 2 (k' := 19) (ls' := [some (.ref a0)]) (st' := [.int 4, .ref a0]) (h' := h9) rfl ?_
  refine mX_ck (k' := 20) (ls' := [some (.ref a0)]) (st' := [.ref (mN h9), .ref a0]) (h' := (mA h9 23 (ix (4 : Int32)))) rfl ?_
  refine lt_gen (X := fun h10 : MH => mX (mE mtab d) KX0_init 20 [some (.ref a0)] [.ref (mN h9), .ref a0] h10) fun h10 => ?_
  refine mX_ck (k' := 21) (ls' := [some (.ref a0)]) (st' := []) (h' := (sR h10 a0 3 (mN h9))) rfl ?_
  refine lt_gen (X := fun h11 : MH => mX (mE mtab d) KX0_init 21 [some (.ref a0)] [] h11) fun h11 => ?_
  refine mX_to 2 (k' := 23) (ls' := [some (.ref a0)]) (st' := [.int 0, .ref a0]) (h' := h11) rfl ?_
  refine mX_ck (k' := 24) (ls' := [some (.ref a0)]) (st' := []) (h' := (sI h11 a0 4 0)) rfl ?_
  refine lt_gen (X := fun h12 : MH => mX (mE mtab d) KX0_init 24 [some (.ref a0)] [] h12) fun h12 => ?_
  refine mX_to 2 (k' := 26) (ls' := [some (.ref a0)]) (st' := [.int (-1), .ref a0]) (h' := h12) rfl ?_
  refine mX_ck (k' := 27) (ls' := [some (.ref a0)]) (st' := []) (h' := (sI h12 a0 5 (-1))) rfl ?_
  refine lt_gen (X := fun h13 : MH => mX (mE mtab d) KX0_init 27 [some (.ref a0)] [] h13) fun h13 => ?_
  refine mX_to 2 (k' := 29) (ls' := [some (.ref a0)]) (st' := [.int 8, .ref a0]) (h' := h13) rfl ?_
  refine mX_ck (k' := 30) (ls' := [some (.ref a0)]) (st' := [.ref (mN h13), .ref a0]) (h' := (mA h13 20 (ix (8 : Int32)))) rfl ?_
  refine lt_gen (X := fun h14 : MH => mX (mE mtab d) KX0_init 30 [some (.ref a0)] [.ref (mN h13), .ref a0] h14) fun h14 => ?_
  refine mX_ck (k' := 31) (ls' := [some (.ref a0)]) (st' := []) (h' := (sR h14 a0 6 (mN h13))) rfl ?_
  refine lt_gen (X := fun h15 : MH => mX (mE mtab d) KX0_init 31 [some (.ref a0)] [] h15) fun h15 => ?_
  refine mX_to 2 (k' := 33) (ls' := [some (.ref a0)]) (st' := [.int 8, .ref a0]) (h' := h15) rfl ?_
  refine mX_ck (k' := 34) (ls' := [some (.ref a0)]) (st' := [.ref (mN h15), .ref a0]) (h' := (mA h15 20 (ix (8 : Int32)))) rfl ?_
  refine lt_gen (X := fun h16 : MH => mX (mE mtab d) KX0_init 34 [some (.ref a0)] [.ref (mN h15), .ref a0] h16) fun h16 => ?_
  refine mX_ck (k' := 35) (ls' := [some (.ref a0)]) (st' := []) (h' := (sR h16 a0 7 (mN h15))) rfl ?_
  refine lt_gen (X := fun h17 : MH => mX (mE mtab d) KX0_init 35 [some (.ref a0)] [] h17) fun h17 => ?_
  refine mX_to 2 (k' := 37) (ls' := [some (.ref a0)]) (st' := [.int 0, .ref a0]) (h' := h17) rfl ?_
  refine mX_ck (k' := 38) (ls' := [some (.ref a0)]) (st' := []) (h' := (sI h17 a0 8 0)) rfl ?_
  refine lt_gen (X := fun h18 : MH => mX (mE mtab d) KX0_init 38 [some (.ref a0)] [] h18) fun h18 => ?_
  exact mX_ret rfl
theorem D_X7_init (d : Nat) (h : MH) (a0 : Nat) : mE mtab (d + 1) 4 [.ref a0] h = ck (¬ a0 = 0) (ck (¬ (300 : Int32) < 0 ∧ ix (300 : Int32) ≤ 1000000) (lt_ (mA h 20 (ix (300 : Int32))) fun h1 => ck (kd h1 a0 = 8) (lt_ (sR h1 a0 0 (mN h)) fun h2 => ck (kd h2 a0 = 8) (lt_ (sI h2 a0 1 0) fun h3 => ck (¬ (301 : Int32) < 0 ∧ ix (301 : Int32) ≤ 1000000) (lt_ (mA h3 20 (ix (301 : Int32))) fun h4 => ck (kd h4 a0 = 8) (lt_ (sR h4 a0 2 (mN h3)) fun h5 => ck (¬ (301 : Int32) < 0 ∧ ix (301 : Int32) ≤ 1000000) (lt_ (mA h5 20 (ix (301 : Int32))) fun h6 => ck (kd h6 a0 = 8) (lt_ (sR h6 a0 3 (mN h5)) fun h7 => ck (¬ (301 : Int32) < 0 ∧ ix (301 : Int32) ≤ 1000000) (lt_ (mA h7 20 (ix (301 : Int32))) fun h8 => ck (kd h8 a0 = 8) (lt_ (sR h8 a0 4 (mN h7)) fun h9 => ck (kd h9 a0 = 8) (lt_ (sI h9 a0 5 0) fun h10 => some (.int 0, h10)))))))))))) := by
  refine mE_eq (q := (yX7_init, cX7_init, 1, none, KX7_init)) (C := KX7_init) (ls := [some (.ref a0)]) rfl rfl rfl rfl ?_
  refine mX_to 1 (k' := 1) (ls' := [some (.ref a0)]) (st' := [.ref a0]) (h' := h) rfl ?_
  refine mX_ck (k' := 2) (ls' := [some (.ref a0)]) (st' := []) (h' := h) rfl ?_
  refine mX_to 2 (k' := 4) (ls' := [some (.ref a0)]) (st' := [.int 300, .ref a0]) (h' := h) rfl ?_
  refine mX_ck (k' := 5) (ls' := [some (.ref a0)]) (st' := [.ref (mN h), .ref a0]) (h' := (mA h 20 (ix (300 : Int32)))) rfl ?_
  refine lt_gen (X := fun h1 : MH => mX (mE mtab d) KX7_init 5 [some (.ref a0)] [.ref (mN h), .ref a0] h1) fun h1 => ?_
  refine mX_ck (k' := 6) (ls' := [some (.ref a0)]) (st' := []) (h' := (sR h1 a0 0 (mN h))) rfl ?_
  refine lt_gen (X := fun h2 : MH => mX (mE mtab d) KX7_init 6 [some (.ref a0)] [] h2) fun h2 => ?_
  refine mX_to 2 (k' := 8) (ls' := [some (.ref a0)]) (st' := [.int 0, .ref a0]) (h' := h2) rfl ?_
  refine mX_ck (k' := 9) (ls' := [some (.ref a0)]) (st' := []) (h' := (sI h2 a0 1 0)) rfl ?_
  refine lt_gen (X := fun h3 : MH => mX (mE mtab d) KX7_init 9 [some (.ref a0)] [] h3) fun h3 => ?_
  refine mX_to 2 (k' := 11) (ls' := [some (.ref a0)]) (st' := [.int 301, .ref a0]) (h' := h3) rfl ?_
  refine mX_ck (k' := 12) (ls' := [some (.ref a0)]) (st' := [.ref (mN h3), .ref a0]) (h' := (mA h3 20 (ix (301 : Int32)))) rfl ?_
  refine lt_gen (X := fun h4 : MH => mX (mE mtab d) KX7_init 12 [some (.ref a0)] [.ref (mN h3), .ref a0] h4) fun h4 => ?_
  refine mX_ck (k' := 13) (ls' := [some (.ref a0)]) (st' := []) (h' := (sR h4 a0 2 (mN h3))) rfl ?_
  refine lt_gen (X := fun h5 : MH => mX (mE mtab d) KX7_init 13 [some (.ref a0)] [] h5) fun h5 => ?_
  refine mX_to 2 (k' := 15) (ls' := [some (.ref a0)]) (st' := [.int 301, .ref a0]) (h' := h5) rfl ?_
  refine mX_ck (k' := 16) (ls' := [some (.ref a0)]) (st' := [.ref (mN h5), .ref a0]) (h' := (mA h5 20 (ix (301 : Int32)))) rfl ?_
  refine lt_gen (X := fun h6 : MH => mX (mE mtab d) KX7_init 16 [some (.ref a0)] [.ref (mN h5), .ref a0] h6) fun h6 => ?_
  refine mX_ck (k' := 17) (ls' := [some (.ref a0)]) (st' := []) (h' := (sR h6 a0 3 (mN h5))) rfl ?_
  refine lt_gen (X := fun h7 : MH => mX (mE mtab d) KX7_init 17 [some (.ref a0)] [] h7) fun h7 => ?_
  refine mX_to 2 (k' := 19) (ls' := [some (.ref a0)]) (st' := [.int 301, .ref a0]) (h' := h7) rfl ?_
  refine mX_ck (k' := 20) (ls' := [some (.ref a0)]) (st' := [.ref (mN h7), .ref a0]) (h' := (mA h7 20 (ix (301 : Int32)))) rfl ?_
  refine lt_gen (X := fun h8 : MH => mX (mE mtab d) KX7_init 20 [some (.ref a0)] [.ref (mN h7), .ref a0] h8) fun h8 => ?_
  refine mX_ck (k' := 21) (ls' := [some (.ref a0)]) (st' := []) (h' := (sR h8 a0 4 (mN h7))) rfl ?_
  refine lt_gen (X := fun h9 : MH => mX (mE mtab d) KX7_init 21 [some (.ref a0)] [] h9) fun h9 => ?_
  refine mX_to 2 (k' := 23) (ls' := [some (.ref a0)]) (st' := [.int 0, .ref a0]) (h' := h9) rfl ?_
  refine mX_ck (k' := 24) (ls' := [some (.ref a0)]) (st' := []) (h' := (sI h9 a0 5 0)) rfl ?_
  refine lt_gen (X := fun h10 : MH => mX (mE mtab d) KX7_init 24 [some (.ref a0)] [] h10) fun h10 => ?_
  exact mX_ret rfl
theorem D_X4_init (d : Nat) (h : MH) (a0 : Nat) (a1 : Nat) : mE mtab (d + 1) 5 [.ref a0, .ref a1] h = ck (¬ a0 = 0) (ck (¬ (24 : Int32) < 0 ∧ ix (24 : Int32) ≤ 1000000) (lt_ (mA h 20 (ix (24 : Int32))) fun h1 => ck (kd h1 a0 = 5) (lt_ (sR h1 a0 1 (mN h)) fun h2 => ck (¬ (24 : Int32) < 0 ∧ ix (24 : Int32) ≤ 1000000) (lt_ (mA h2 20 (ix (24 : Int32))) fun h3 => ck (kd h3 a0 = 5) (lt_ (sR h3 a0 2 (mN h2)) fun h4 => ck (¬ (24 : Int32) < 0 ∧ ix (24 : Int32) ≤ 1000000) (lt_ (mA h4 20 (ix (24 : Int32))) fun h5 => ck (kd h5 a0 = 5) (lt_ (sR h5 a0 3 (mN h4)) fun h6 => ck (¬ (300 : Int32) < 0 ∧ ix (300 : Int32) ≤ 1000000) (lt_ (mA h6 20 (ix (300 : Int32))) fun h7 => ck (kd h7 a0 = 5) (lt_ (sR h7 a0 4 (mN h6)) fun h8 => ck (kd h8 a0 = 5) (lt_ (sI h8 a0 5 0) fun h9 => ck (kd h9 a0 = 5) (lt_ (sI h9 a0 6 0) fun h10 => ck (kd h10 a0 = 5) (lt_ (sI h10 a0 7 0) fun h11 => ck (kd h11 a0 = 5 ∧ ((0 : Int32) = 0 ∨ (0 : Int32) = 1)) (lt_ (sI h11 a0 8 0) fun h12 => ck (kd h12 a0 = 5) (lt_ (sR h12 a0 9 0) fun h13 => ck (kd h13 a0 = 5) (lt_ (sR h13 a0 10 0) fun h14 => ck (kd h14 a0 = 5) (lt_ (sI h14 a0 11 (-1)) fun h15 => ck (kd h15 a0 = 5) (lt_ (sI h15 a0 12 (-1)) fun h16 => ck (kd h16 a0 = 5) (lt_ (sR h16 a0 0 a1) fun h17 => some (.int 0, h17))))))))))))))))))) := by
  refine mE_eq (q := (yX4_init, cX4_init, 2, none, KX4_init)) (C := KX4_init) (ls := [some (.ref a0), some (.ref a1)]) rfl rfl rfl rfl ?_
  refine mX_to 1 (k' := 1) (ls' := [some (.ref a0), some (.ref a1)]) (st' := [.ref a0]) (h' := h) rfl ?_
  refine mX_ck (k' := 2) (ls' := [some (.ref a0), some (.ref a1)]) (st' := []) (h' := h) rfl ?_
  refine mX_to 2 (k' := 4) (ls' := [some (.ref a0), some (.ref a1)]) (st' := [.int 24, .ref a0]) (h' := h) rfl ?_
  refine mX_ck (k' := 5) (ls' := [some (.ref a0), some (.ref a1)]) (st' := [.ref (mN h), .ref a0]) (h' := (mA h 20 (ix (24 : Int32)))) rfl ?_
  refine lt_gen (X := fun h1 : MH => mX (mE mtab d) KX4_init 5 [some (.ref a0), some (.ref a1)] [.ref (mN h), .ref a0] h1) fun h1 => ?_
  refine mX_ck (k' := 6) (ls' := [some (.ref a0), some (.ref a1)]) (st' := []) (h' := (sR h1 a0 1 (mN h))) rfl ?_
  refine lt_gen (X := fun h2 : MH => mX (mE mtab d) KX4_init 6 [some (.ref a0), some (.ref a1)] [] h2) fun h2 => ?_
  refine mX_to 2 (k' := 8) (ls' := [some (.ref a0), some (.ref a1)]) (st' := [.int 24, .ref a0]) (h' := h2) rfl ?_
  refine mX_ck (k' := 9) (ls' := [some (.ref a0), some (.ref a1)]) (st' := [.ref (mN h2), .ref a0]) (h' := (mA h2 20 (ix (24 : Int32)))) rfl ?_
  refine lt_gen (X := fun h3 : MH => mX (mE mtab d) KX4_init 9 [some (.ref a0), some (.ref a1)] [.ref (mN h2), .ref a0] h3) fun h3 => ?_
  refine mX_ck (k' := 10) (ls' := [some (.ref a0), some (.ref a1)]) (st' := []) (h' := (sR h3 a0 2 (mN h2))) rfl ?_
  refine lt_gen (X := fun h4 : MH => mX (mE mtab d) KX4_init 10 [some (.ref a0), some (.ref a1)] [] h4) fun h4 => ?_
  refine mX_to 2 (k' := 12) (ls' := [some (.ref a0), some (.ref a1)]) (st' := [.int 24, .ref a0]) (h' := h4) rfl ?_
  refine mX_ck (k' := 13) (ls' := [some (.ref a0), some (.ref a1)]) (st' := [.ref (mN h4), .ref a0]) (h' := (mA h4 20 (ix (24 : Int32)))) rfl ?_
  refine lt_gen (X := fun h5 : MH => mX (mE mtab d) KX4_init 13 [some (.ref a0), some (.ref a1)] [.ref (mN h4), .ref a0] h5) fun h5 => ?_
  refine mX_ck (k' := 14) (ls' := [some (.ref a0), some (.ref a1)]) (st' := []) (h' := (sR h5 a0 3 (mN h4))) rfl ?_
  refine lt_gen (X := fun h6 : MH => mX (mE mtab d) KX4_init 14 [some (.ref a0), some (.ref a1)] [] h6) fun h6 => ?_
  refine mX_to 2 (k' := 16) (ls' := [some (.ref a0), some (.ref a1)]) (st' := [.int 300, .ref a0]) (h' := h6) rfl ?_
  refine mX_ck (k' := 17) (ls' := [some (.ref a0), some (.ref a1)]) (st' := [.ref (mN h6), .ref a0]) (h' := (mA h6 20 (ix (300 : Int32)))) rfl ?_
  refine lt_gen (X := fun h7 : MH => mX (mE mtab d) KX4_init 17 [some (.ref a0), some (.ref a1)] [.ref (mN h6), .ref a0] h7) fun h7 => ?_
  refine mX_ck (k' := 18) (ls' := [some (.ref a0), some (.ref a1)]) (st' := []) (h' := (sR h7 a0 4 (mN h6))) rfl ?_
  refine lt_gen (X := fun h8 : MH => mX (mE mtab d) KX4_init 18 [some (.ref a0), some (.ref a1)] [] h8) fun h8 => ?_
  refine mX_to 2 (k' := 20) (ls' := [some (.ref a0), some (.ref a1)]) (st' := [.int 0, .ref a0]) (h' := h8) rfl ?_
  refine mX_ck (k' := 21) (ls' := [some (.ref a0), some (.ref a1)]) (st' := []) (h' := (sI h8 a0 5 0)) rfl ?_
  refine lt_gen (X := fun h9 : MH => mX (mE mtab d) KX4_init 21 [some (.ref a0), some (.ref a1)] [] h9) fun h9 => ?_
  refine mX_to 2 (k' := 23) (ls' := [some (.ref a0), some (.ref a1)]) (st' := [.int 0, .ref a0]) (h' := h9) rfl ?_
  refine mX_ck (k' := 24) (ls' := [some (.ref a0), some (.ref a1)]) (st' := []) (h' := (sI h9 a0 6 0)) rfl ?_
  refine lt_gen (X := fun h10 : MH => mX (mE mtab d) KX4_init 24 [some (.ref a0), some (.ref a1)] [] h10) fun h10 => ?_
  refine mX_to 2 (k' := 26) (ls' := [some (.ref a0), some (.ref a1)]) (st' := [.int 0, .ref a0]) (h' := h10) rfl ?_
  refine mX_ck (k' := 27) (ls' := [some (.ref a0), some (.ref a1)]) (st' := []) (h' := (sI h10 a0 7 0)) rfl ?_
  refine lt_gen (X := fun h11 : MH => mX (mE mtab d) KX4_init 27 [some (.ref a0), some (.ref a1)] [] h11) fun h11 => ?_
  refine mX_to 2 (k' := 29) (ls' := [some (.ref a0), some (.ref a1)]) (st' := [.int 0, .ref a0]) (h' := h11) rfl ?_
  refine mX_ck (k' := 30) (ls' := [some (.ref a0), some (.ref a1)]) (st' := []) (h' := (sI h11 a0 8 0)) rfl ?_
  refine lt_gen (X := fun h12 : MH => mX (mE mtab d) KX4_init 30 [some (.ref a0), some (.ref a1)] [] h12) fun h12 => ?_
  refine mX_to 2 (k' := 32) (ls' := [some (.ref a0), some (.ref a1)]) (st' := [.ref 0, .ref a0]) (h' := h12) rfl ?_
  refine mX_ck (k' := 33) (ls' := [some (.ref a0), some (.ref a1)]) (st' := []) (h' := (sR h12 a0 9 0)) rfl ?_
  refine lt_gen (X := fun h13 : MH => mX (mE mtab d) KX4_init 33 [some (.ref a0), some (.ref a1)] [] h13) fun h13 => ?_
  refine mX_to 2 (k' := 35) (ls' := [some (.ref a0), some (.ref a1)]) (st' := [.ref 0, .ref a0]) (h' := h13) rfl ?_
  refine mX_ck (k' := 36) (ls' := [some (.ref a0), some (.ref a1)]) (st' := []) (h' := (sR h13 a0 10 0)) rfl ?_
  refine lt_gen (X := fun h14 : MH => mX (mE mtab d) KX4_init 36 [some (.ref a0), some (.ref a1)] [] h14) fun h14 => ?_
  refine mX_to 2 (k' := 38) (ls' := [some (.ref a0), some (.ref a1)]) (st' := [.int (-1), .ref a0]) (h' := h14) rfl ?_
  refine mX_ck (k' := 39) (ls' := [some (.ref a0), some (.ref a1)]) (st' := []) (h' := (sI h14 a0 11 (-1))) rfl ?_
  refine lt_gen (X := fun h15 : MH => mX (mE mtab d) KX4_init 39 [some (.ref a0), some (.ref a1)] [] h15) fun h15 => ?_
  refine mX_to 2 (k' := 41) (ls' := [some (.ref a0), some (.ref a1)]) (st' := [.int (-1), .ref a0]) (h' := h15) rfl ?_
  refine mX_ck (k' := 42) (ls' := [some (.ref a0), some (.ref a1)]) (st' := []) (h' := (sI h15 a0 12 (-1))) rfl ?_
  refine lt_gen (X := fun h16 : MH => mX (mE mtab d) KX4_init 42 [some (.ref a0), some (.ref a1)] [] h16) fun h16 => ?_
  refine mX_to 2 (k' := 44) (ls' := [some (.ref a0), some (.ref a1)]) (st' := [.ref a1, .ref a0]) (h' := h16) rfl ?_
  refine mX_ck (k' := 45) (ls' := [some (.ref a0), some (.ref a1)]) (st' := []) (h' := (sR h16 a0 0 a1)) rfl ?_
  refine lt_gen (X := fun h17 : MH => mX (mE mtab d) KX4_init 45 [some (.ref a0), some (.ref a1)] [] h17) fun h17 => ?_
  exact mX_ret rfl
theorem D_X5_init (d : Nat) (h : MH) (a0 : Nat) : mE mtab (d + 1) 6 [.ref a0] h = ck (¬ a0 = 0) (ck (¬ (6561 : Int32) < 0 ∧ ix (6561 : Int32) ≤ 1000000) (lt_ (mA h 20 (ix (6561 : Int32))) fun h1 => ck (kd h1 a0 = 6) (lt_ (sR h1 a0 0 (mN h)) fun h2 => ck (¬ (6561 : Int32) < 0 ∧ ix (6561 : Int32) ≤ 1000000) (lt_ (mA h2 20 (ix (6561 : Int32))) fun h3 => ck (kd h3 a0 = 6) (lt_ (sR h3 a0 1 (mN h2)) fun h4 => ck (kd h4 a0 = 6) (lt_ (sI h4 a0 2 0) fun h5 => ck (kd h5 a0 = 6) (lt_ (sI h5 a0 3 (-1)) fun h6 => some (.int 0, h6)))))))) := by
  refine mE_eq (q := (yX5_init, cX5_init, 1, none, KX5_init)) (C := KX5_init) (ls := [some (.ref a0)]) rfl rfl rfl rfl ?_
  refine mX_to 1 (k' := 1) (ls' := [some (.ref a0)]) (st' := [.ref a0]) (h' := h) rfl ?_
  refine mX_ck (k' := 2) (ls' := [some (.ref a0)]) (st' := []) (h' := h) rfl ?_
  refine mX_to 2 (k' := 4) (ls' := [some (.ref a0)]) (st' := [.int 6561, .ref a0]) (h' := h) rfl ?_
  refine mX_ck (k' := 5) (ls' := [some (.ref a0)]) (st' := [.ref (mN h), .ref a0]) (h' := (mA h 20 (ix (6561 : Int32)))) rfl ?_
  refine lt_gen (X := fun h1 : MH => mX (mE mtab d) KX5_init 5 [some (.ref a0)] [.ref (mN h), .ref a0] h1) fun h1 => ?_
  refine mX_ck (k' := 6) (ls' := [some (.ref a0)]) (st' := []) (h' := (sR h1 a0 0 (mN h))) rfl ?_
  refine lt_gen (X := fun h2 : MH => mX (mE mtab d) KX5_init 6 [some (.ref a0)] [] h2) fun h2 => ?_
  refine mX_to 2 (k' := 8) (ls' := [some (.ref a0)]) (st' := [.int 6561, .ref a0]) (h' := h2) rfl ?_
  refine mX_ck (k' := 9) (ls' := [some (.ref a0)]) (st' := [.ref (mN h2), .ref a0]) (h' := (mA h2 20 (ix (6561 : Int32)))) rfl ?_
  refine lt_gen (X := fun h3 : MH => mX (mE mtab d) KX5_init 9 [some (.ref a0)] [.ref (mN h2), .ref a0] h3) fun h3 => ?_
  refine mX_ck (k' := 10) (ls' := [some (.ref a0)]) (st' := []) (h' := (sR h3 a0 1 (mN h2))) rfl ?_
  refine lt_gen (X := fun h4 : MH => mX (mE mtab d) KX5_init 10 [some (.ref a0)] [] h4) fun h4 => ?_
  refine mX_to 2 (k' := 12) (ls' := [some (.ref a0)]) (st' := [.int 0, .ref a0]) (h' := h4) rfl ?_
  refine mX_ck (k' := 13) (ls' := [some (.ref a0)]) (st' := []) (h' := (sI h4 a0 2 0)) rfl ?_
  refine lt_gen (X := fun h5 : MH => mX (mE mtab d) KX5_init 13 [some (.ref a0)] [] h5) fun h5 => ?_
  refine mX_to 2 (k' := 15) (ls' := [some (.ref a0)]) (st' := [.int (-1), .ref a0]) (h' := h5) rfl ?_
  refine mX_ck (k' := 16) (ls' := [some (.ref a0)]) (st' := []) (h' := (sI h5 a0 3 (-1))) rfl ?_
  refine lt_gen (X := fun h6 : MH => mX (mE mtab d) KX5_init 16 [some (.ref a0)] [] h6) fun h6 => ?_
  exact mX_ret rfl
theorem D_X1_init (d : Nat) (h : MH) (a0 : Nat) : mE mtab (d + 1) 7 [.ref a0] h = ck (¬ a0 = 0) (ck (¬ (16 : Int32) < 0 ∧ ix (16 : Int32) ≤ 1000000) (lt_ (mA h 20 (ix (16 : Int32))) fun h1 => ck (kd h1 a0 = 2) (lt_ (sR h1 a0 0 (mN h)) fun h2 => ck (¬ (16 : Int32) < 0 ∧ ix (16 : Int32) ≤ 1000000) (lt_ (mA h2 21 (ix (16 : Int32))) fun h3 => ck (kd h3 a0 = 2) (lt_ (sR h3 a0 1 (mN h2)) fun h4 => ck (¬ (16 : Int32) < 0 ∧ ix (16 : Int32) ≤ 1000000) (lt_ (mA h4 22 (ix (16 : Int32))) fun h5 => ck (kd h5 a0 = 2) (lt_ (sR h5 a0 2 (mN h4)) fun h6 => ck (kd h6 a0 = 2) (lt_ (sI h6 a0 3 0) fun h7 => ck (kd h7 a0 = 2) (lt_ (sI h7 a0 4 0) fun h8 => some (.int 0, h8)))))))))) := by
  refine mE_eq (q := (yX1_init, cX1_init, 1, none, KX1_init)) (C := KX1_init) (ls := [some (.ref a0)]) rfl rfl rfl rfl ?_
  refine mX_to 1 (k' := 1) (ls' := [some (.ref a0)]) (st' := [.ref a0]) (h' := h) rfl ?_
  refine mX_ck (k' := 2) (ls' := [some (.ref a0)]) (st' := []) (h' := h) rfl ?_
  refine mX_to 2 (k' := 4) (ls' := [some (.ref a0)]) (st' := [.int 16, .ref a0]) (h' := h) rfl ?_
  refine mX_ck (k' := 5) (ls' := [some (.ref a0)]) (st' := [.ref (mN h), .ref a0]) (h' := (mA h 20 (ix (16 : Int32)))) rfl ?_
  refine lt_gen (X := fun h1 : MH => mX (mE mtab d) KX1_init 5 [some (.ref a0)] [.ref (mN h), .ref a0] h1) fun h1 => ?_
  refine mX_ck (k' := 6) (ls' := [some (.ref a0)]) (st' := []) (h' := (sR h1 a0 0 (mN h))) rfl ?_
  refine lt_gen (X := fun h2 : MH => mX (mE mtab d) KX1_init 6 [some (.ref a0)] [] h2) fun h2 => ?_
  refine mX_to 2 (k' := 8) (ls' := [some (.ref a0)]) (st' := [.int 16, .ref a0]) (h' := h2) rfl ?_
  refine mX_ck (k' := 9) (ls' := [some (.ref a0)]) (st' := [.ref (mN h2), .ref a0]) (h' := (mA h2 21 (ix (16 : Int32)))) rfl ?_
  refine lt_gen (X := fun h3 : MH => mX (mE mtab d) KX1_init 9 [some (.ref a0)] [.ref (mN h2), .ref a0] h3) fun h3 => ?_
  refine mX_ck (k' := 10) (ls' := [some (.ref a0)]) (st' := []) (h' := (sR h3 a0 1 (mN h2))) rfl ?_
  refine lt_gen (X := fun h4 : MH => mX (mE mtab d) KX1_init 10 [some (.ref a0)] [] h4) fun h4 => ?_
  refine mX_to 2 (k' := 12) (ls' := [some (.ref a0)]) (st' := [.int 16, .ref a0]) (h' := h4) rfl ?_
  refine mX_ck (k' := 13) (ls' := [some (.ref a0)]) (st' := [.ref (mN h4), .ref a0]) (h' := (mA h4 22 (ix (16 : Int32)))) rfl ?_
  refine lt_gen (X := fun h5 : MH => mX (mE mtab d) KX1_init 13 [some (.ref a0)] [.ref (mN h4), .ref a0] h5) fun h5 => ?_
  refine mX_ck (k' := 14) (ls' := [some (.ref a0)]) (st' := []) (h' := (sR h5 a0 2 (mN h4))) rfl ?_
  refine lt_gen (X := fun h6 : MH => mX (mE mtab d) KX1_init 14 [some (.ref a0)] [] h6) fun h6 => ?_
  refine mX_to 2 (k' := 16) (ls' := [some (.ref a0)]) (st' := [.int 0, .ref a0]) (h' := h6) rfl ?_
  refine mX_ck (k' := 17) (ls' := [some (.ref a0)]) (st' := []) (h' := (sI h6 a0 3 0)) rfl ?_
  refine lt_gen (X := fun h7 : MH => mX (mE mtab d) KX1_init 17 [some (.ref a0)] [] h7) fun h7 => ?_
  refine mX_to 2 (k' := 19) (ls' := [some (.ref a0)]) (st' := [.int 0, .ref a0]) (h' := h7) rfl ?_
  refine mX_ck (k' := 20) (ls' := [some (.ref a0)]) (st' := []) (h' := (sI h7 a0 4 0)) rfl ?_
  refine lt_gen (X := fun h8 : MH => mX (mE mtab d) KX1_init 20 [some (.ref a0)] [] h8) fun h8 => ?_
  exact mX_ret rfl
theorem D_X10_init (d : Nat) (h : MH) (a0 : Nat) : mE mtab (d + 1) 8 [.ref a0] h = ck (¬ a0 = 0) (lt_ (mA h 1 9) fun h1 => ck (kd h1 (mN h) = 1) (cV (mE mtab d 3 [.ref (mN h)] h1) (fun h2 => ck (kd h2 a0 = 11) (lt_ (sR h2 a0 0 (mN h)) fun h3 => lt_ (mA h3 1 9) fun h4 => ck (kd h4 (mN h3) = 1) (cV (mE mtab d 3 [.ref (mN h3)] h4) (fun h5 => ck (kd h5 a0 = 11) (lt_ (sR h5 a0 1 (mN h3)) fun h6 => lt_ (mA h6 10 11) fun h7 => ck (kd h7 (mN h6) = 10) (cV (mE mtab d 0 [.ref (mN h6)] h7) (fun h8 => ck (kd h8 a0 = 11) (lt_ (sR h8 a0 2 (mN h6)) fun h9 => lt_ (mA h9 8 6) fun h10 => ck (kd h10 (mN h9) = 8) (cV (mE mtab d 4 [.ref (mN h9)] h10) (fun h11 => ck (kd h11 a0 = 11) (lt_ (sR h11 a0 3 (mN h9)) fun h12 => lt_ (mA h12 5 13) fun h13 => ck (kd h13 a0 = 11) (ck (kd h13 (mN h12) = 5) (cV (mE mtab d 5 [.ref (mN h12), .ref (gR h13 a0 3)] h13) (fun h14 => ck (kd h14 a0 = 11) (lt_ (sR h14 a0 4 (mN h12)) fun h15 => lt_ (mA h15 6 4) fun h16 => ck (kd h16 (mN h15) = 6) (cV (mE mtab d 6 [.ref (mN h15)] h16) (fun h17 => ck (kd h17 a0 = 11) (lt_ (sR h17 a0 5 (mN h15)) fun h18 => lt_ (mA h18 2 5) fun h19 => ck (kd h19 (mN h18) = 2) (cV (mE mtab d 7 [.ref (mN h18)] h19) (fun h20 => ck (kd h20 a0 = 11) (lt_ (sR h20 a0 6 (mN h18)) fun h21 => some (.int 0, h21)))))))))))))))))))))))) := by
  refine mE_eq (q := (yX10_init, cX10_init, 1, none, KX10_init)) (C := KX10_init) (ls := [some (.ref a0)]) rfl rfl rfl rfl ?_
  refine mX_to 1 (k' := 1) (ls' := [some (.ref a0)]) (st' := [.ref a0]) (h' := h) rfl ?_
  refine mX_ck (k' := 2) (ls' := [some (.ref a0)]) (st' := []) (h' := h) rfl ?_
  refine mX_to 1 (k' := 3) (ls' := [some (.ref a0)]) (st' := [.ref a0]) (h' := h) rfl ?_
  refine mX_to 1 (k' := 4) (ls' := [some (.ref a0)]) (st' := [.ref (mN h), .ref a0]) (h' := (mA h 1 9)) rfl ?_
  refine lt_gen (X := fun h1 : MH => mX (mE mtab d) KX10_init 4 [some (.ref a0)] [.ref (mN h), .ref a0] h1) fun h1 => ?_
  refine mX_to 1 (k' := 5) (ls' := [some (.ref a0)]) (st' := [.ref (mN h), .ref (mN h), .ref a0]) (h' := h1) rfl ?_
  refine mX_ckc (m := mcl (mE mtab d 3 [.ref (mN h)] h1) 0 6 [some (.ref a0)] [.ref (mN h), .ref a0]) rfl ?_
  refine mk_cV ?_
  intro h2
  refine mX_ck (k' := 7) (ls' := [some (.ref a0)]) (st' := []) (h' := (sR h2 a0 0 (mN h))) rfl ?_
  refine lt_gen (X := fun h3 : MH => mX (mE mtab d) KX10_init 7 [some (.ref a0)] [] h3) fun h3 => ?_
  refine mX_to 1 (k' := 8) (ls' := [some (.ref a0)]) (st' := [.ref a0]) (h' := h3) rfl ?_
  refine mX_to 1 (k' := 9) (ls' := [some (.ref a0)]) (st' := [.ref (mN h3), .ref a0]) (h' := (mA h3 1 9)) rfl ?_
  refine lt_gen (X := fun h4 : MH => mX (mE mtab d) KX10_init 9 [some (.ref a0)] [.ref (mN h3), .ref a0] h4) fun h4 => ?_
  refine mX_to 1 (k' := 10) (ls' := [some (.ref a0)]) (st' := [.ref (mN h3), .ref (mN h3), .ref a0]) (h' := h4) rfl ?_
  refine mX_ckc (m := mcl (mE mtab d 3 [.ref (mN h3)] h4) 0 11 [some (.ref a0)] [.ref (mN h3), .ref a0]) rfl ?_
  refine mk_cV ?_
  intro h5
  refine mX_ck (k' := 12) (ls' := [some (.ref a0)]) (st' := []) (h' := (sR h5 a0 1 (mN h3))) rfl ?_
  refine lt_gen (X := fun h6 : MH => mX (mE mtab d) KX10_init 12 [some (.ref a0)] [] h6) fun h6 => ?_
  refine mX_to 1 (k' := 13) (ls' := [some (.ref a0)]) (st' := [.ref a0]) (h' := h6) rfl ?_
  refine mX_to 1 (k' := 14) (ls' := [some (.ref a0)]) (st' := [.ref (mN h6), .ref a0]) (h' := (mA h6 10 11)) rfl ?_
  refine lt_gen (X := fun h7 : MH => mX (mE mtab d) KX10_init 14 [some (.ref a0)] [.ref (mN h6), .ref a0] h7) fun h7 => ?_
  refine mX_to 1 (k' := 15) (ls' := [some (.ref a0)]) (st' := [.ref (mN h6), .ref (mN h6), .ref a0]) (h' := h7) rfl ?_
  refine mX_ckc (m := mcl (mE mtab d 0 [.ref (mN h6)] h7) 0 16 [some (.ref a0)] [.ref (mN h6), .ref a0]) rfl ?_
  refine mk_cV ?_
  intro h8
  refine mX_ck (k' := 17) (ls' := [some (.ref a0)]) (st' := []) (h' := (sR h8 a0 2 (mN h6))) rfl ?_
  refine lt_gen (X := fun h9 : MH => mX (mE mtab d) KX10_init 17 [some (.ref a0)] [] h9) fun h9 => ?_
  refine mX_to 1 (k' := 18) (ls' := [some (.ref a0)]) (st' := [.ref a0]) (h' := h9) rfl ?_
  refine mX_to 1 (k' := 19) (ls' := [some (.ref a0)]) (st' := [.ref (mN h9), .ref a0]) (h' := (mA h9 8 6)) rfl ?_
  refine lt_gen (X := fun h10 : MH => mX (mE mtab d) KX10_init 19 [some (.ref a0)] [.ref (mN h9), .ref a0] h10) fun h10 => ?_
  refine mX_to 1 (k' := 20) (ls' := [some (.ref a0)]) (st' := [.ref (mN h9), .ref (mN h9), .ref a0]) (h' := h10) rfl ?_
  refine mX_ckc (m := mcl (mE mtab d 4 [.ref (mN h9)] h10) 0 21 [some (.ref a0)] [.ref (mN h9), .ref a0]) rfl ?_
  refine mk_cV ?_
  intro h11
  refine mX_ck (k' := 22) (ls' := [some (.ref a0)]) (st' := []) (h' := (sR h11 a0 3 (mN h9))) rfl ?_
  refine lt_gen (X := fun h12 : MH => mX (mE mtab d) KX10_init 22 [some (.ref a0)] [] h12) fun h12 => ?_
  refine mX_to 1 (k' := 23) (ls' := [some (.ref a0)]) (st' := [.ref a0]) (h' := h12) rfl ?_
  refine mX_to 1 (k' := 24) (ls' := [some (.ref a0)]) (st' := [.ref (mN h12), .ref a0]) (h' := (mA h12 5 13)) rfl ?_
  refine lt_gen (X := fun h13 : MH => mX (mE mtab d) KX10_init 24 [some (.ref a0)] [.ref (mN h12), .ref a0] h13) fun h13 => ?_
  refine mX_to 2 (k' := 26) (ls' := [some (.ref a0)]) (st' := [.ref a0, .ref (mN h12), .ref (mN h12), .ref a0]) (h' := h13) rfl ?_
  refine mX_ck (k' := 27) (ls' := [some (.ref a0)]) (st' := [.ref (gR h13 a0 3), .ref (mN h12), .ref (mN h12), .ref a0]) (h' := h13) rfl ?_
  refine mX_ckc (m := mcl (mE mtab d 5 [.ref (mN h12), .ref (gR h13 a0 3)] h13) 0 28 [some (.ref a0)] [.ref (mN h12), .ref a0]) rfl ?_
  refine mk_cV ?_
  intro h14
  refine mX_ck (k' := 29) (ls' := [some (.ref a0)]) (st' := []) (h' := (sR h14 a0 4 (mN h12))) rfl ?_
  refine lt_gen (X := fun h15 : MH => mX (mE mtab d) KX10_init 29 [some (.ref a0)] [] h15) fun h15 => ?_
  refine mX_to 1 (k' := 30) (ls' := [some (.ref a0)]) (st' := [.ref a0]) (h' := h15) rfl ?_
  refine mX_to 1 (k' := 31) (ls' := [some (.ref a0)]) (st' := [.ref (mN h15), .ref a0]) (h' := (mA h15 6 4)) rfl ?_
  refine lt_gen (X := fun h16 : MH => mX (mE mtab d) KX10_init 31 [some (.ref a0)] [.ref (mN h15), .ref a0] h16) fun h16 => ?_
  refine mX_to 1 (k' := 32) (ls' := [some (.ref a0)]) (st' := [.ref (mN h15), .ref (mN h15), .ref a0]) (h' := h16) rfl ?_
  refine mX_ckc (m := mcl (mE mtab d 6 [.ref (mN h15)] h16) 0 33 [some (.ref a0)] [.ref (mN h15), .ref a0]) rfl ?_
  refine mk_cV ?_
  intro h17
  refine mX_ck (k' := 34) (ls' := [some (.ref a0)]) (st' := []) (h' := (sR h17 a0 5 (mN h15))) rfl ?_
  refine lt_gen (X := fun h18 : MH => mX (mE mtab d) KX10_init 34 [some (.ref a0)] [] h18) fun h18 => ?_
  refine mX_to 1 (k' := 35) (ls' := [some (.ref a0)]) (st' := [.ref a0]) (h' := h18) rfl ?_
  refine mX_to 1 (k' := 36) (ls' := [some (.ref a0)]) (st' := [.ref (mN h18), .ref a0]) (h' := (mA h18 2 5)) rfl ?_
  refine lt_gen (X := fun h19 : MH => mX (mE mtab d) KX10_init 36 [some (.ref a0)] [.ref (mN h18), .ref a0] h19) fun h19 => ?_
  refine mX_to 1 (k' := 37) (ls' := [some (.ref a0)]) (st' := [.ref (mN h18), .ref (mN h18), .ref a0]) (h' := h19) rfl ?_
  refine mX_ckc (m := mcl (mE mtab d 7 [.ref (mN h18)] h19) 0 38 [some (.ref a0)] [.ref (mN h18), .ref a0]) rfl ?_
  refine mk_cV ?_
  intro h20
  refine mX_ck (k' := 39) (ls' := [some (.ref a0)]) (st' := []) (h' := (sR h20 a0 6 (mN h18))) rfl ?_
  refine lt_gen (X := fun h21 : MH => mX (mE mtab d) KX10_init 39 [some (.ref a0)] [] h21) fun h21 => ?_
  exact mX_ret rfl
theorem D_X11_copy_2 (d : Nat) (h : MH) (l0 : Nat) (l1 : Nat) (l2 : Int32) : mX (mE mtab d) KX11_copy 2 [some (.ref l0), some (.ref l1), some (.int l2)] [] h = (if l2 < 1498 then ck ((kd h l0 = 20 ∨ kd h l0 = 24) ∧ ib l2 (ln h l0)) (ck (kd h l1 = 20 ∧ ib l2 (ln h l1)) (lt_ (sI h l1 (ix l2) (gI h l0 (ix l2))) fun h1 => mX (mE mtab d) KX11_copy 2 [some (.ref l0), some (.ref l1), some (.int (l2 + 1))] [] h1)) else some (.int 0, h)) := by
  refine mX_to 2 (k' := 4) (ls' := [some (.ref l0), some (.ref l1), some (.int l2)]) (st' := [.int 1498, .int l2]) (h' := h) rfl ?_
  refine mX_br (t := 5) (f := 13) (ls' := [some (.ref l0), some (.ref l1), some (.int l2)]) (st' := []) (h' := h) rfl ?_ ?_
  · refine mX_to 4 (k' := 9) (ls' := [some (.ref l0), some (.ref l1), some (.int l2)]) (st' := [.int l2, .ref l0, .int l2, .ref l1]) (h' := h) rfl ?_
    refine mX_ck (k' := 10) (ls' := [some (.ref l0), some (.ref l1), some (.int l2)]) (st' := [.int (gI h l0 (ix l2)), .int l2, .ref l1]) (h' := h) rfl ?_
    refine mX_ck (k' := 11) (ls' := [some (.ref l0), some (.ref l1), some (.int l2)]) (st' := []) (h' := (sI h l1 (ix l2) (gI h l0 (ix l2)))) rfl ?_
    refine lt_gen (X := fun h1 : MH => mX (mE mtab d) KX11_copy 11 [some (.ref l0), some (.ref l1), some (.int l2)] [] h1) fun h1 => ?_
    refine mX_to 2 (k' := 2) (ls' := [some (.ref l0), some (.ref l1), some (.int (l2 + 1))]) (st' := []) (h' := h1) rfl ?_
    rfl
  · exact mX_ret rfl
theorem D_X11_copy (d : Nat) (h : MH) (a0 : Nat) (a1 : Nat) : mE mtab (d + 1) 9 [.ref a0, .ref a1] h = mX (mE mtab d) KX11_copy 2 [some (.ref a0), some (.ref a1), some (.int 0)] [] h := by
  refine mE_eq (q := (yX11_copy, cX11_copy, 3, none, KX11_copy)) (C := KX11_copy) (ls := [some (.ref a0), some (.ref a1), none]) rfl rfl rfl rfl ?_
  refine mX_to 2 (k' := 2) (ls' := [some (.ref a0), some (.ref a1), some (.int 0)]) (st' := []) (h' := h) rfl ?_
  rfl
theorem D_X11_init_87 (d : Nat) (h : MH) (l0 : Nat) (l1 : Int32) : mX (mE mtab d) KX11_init 87 [some (.ref l0), some (.int l1)] [] h = (if l1 < 4 then ck (kd h l0 = 12) (ck (kd h (gR h l0 0) = 20 ∧ ib (30 + l1) (ln h (gR h l0 0))) (lt_ (sI h (gR h l0 0) (ix (30 + l1)) (-1)) fun h38 => mX (mE mtab d) KX11_init 87 [some (.ref l0), some (.int (l1 + 1))] [] h38)) else ck (kd h l0 = 12) (ck (kd h l0 = 12) (cV (mE mtab d 9 [.ref (gR h l0 0), .ref (gR h l0 1)] h) (fun h40 => some (.int 0, h40))))) := by
  refine mX_to 2 (k' := 89) (ls' := [some (.ref l0), some (.int l1)]) (st' := [.int 4, .int l1]) (h' := h) rfl ?_
  refine mX_br (t := 90) (f := 99) (ls' := [some (.ref l0), some (.int l1)]) (st' := []) (h' := h) rfl ?_ ?_
  · refine mX_to 1 (k' := 91) (ls' := [some (.ref l0), some (.int l1)]) (st' := [.ref l0]) (h' := h) rfl ?_
    refine mX_ck (k' := 92) (ls' := [some (.ref l0), some (.int l1)]) (st' := [.ref (gR h l0 0)]) (h' := h) rfl ?_
    refine mX_to 4 (k' := 96) (ls' := [some (.ref l0), some (.int l1)]) (st' := [.int (-1), .int (30 + l1), .ref (gR h l0 0)]) (h' := h) rfl ?_
    refine mX_ck (k' := 97) (ls' := [some (.ref l0), some (.int l1)]) (st' := []) (h' := (sI h (gR h l0 0) (ix (30 + l1)) (-1))) rfl ?_
    refine lt_gen (X := fun h38 : MH => mX (mE mtab d) KX11_init 97 [some (.ref l0), some (.int l1)] [] h38) fun h38 => ?_
    refine mX_to 2 (k' := 87) (ls' := [some (.ref l0), some (.int (l1 + 1))]) (st' := []) (h' := h38) rfl ?_
    rfl
  · refine mX_to 1 (k' := 100) (ls' := [some (.ref l0), some (.int l1)]) (st' := [.ref l0]) (h' := h) rfl ?_
    refine mX_ck (k' := 101) (ls' := [some (.ref l0), some (.int l1)]) (st' := [.ref (gR h l0 0)]) (h' := h) rfl ?_
    refine mX_to 1 (k' := 102) (ls' := [some (.ref l0), some (.int l1)]) (st' := [.ref l0, .ref (gR h l0 0)]) (h' := h) rfl ?_
    refine mX_ck (k' := 103) (ls' := [some (.ref l0), some (.int l1)]) (st' := [.ref (gR h l0 1), .ref (gR h l0 0)]) (h' := h) rfl ?_
    refine mX_cV (o := mE mtab d 9 [.ref (gR h l0 0), .ref (gR h l0 1)] h) (k' := 104) (ls' := [some (.ref l0), some (.int l1)]) (st' := []) rfl ?_
    intro h40
    exact mX_ret rfl
theorem D_X11_init (d : Nat) (h : MH) (a0 : Nat) : mE mtab (d + 1) 10 [.ref a0] h = ck (¬ a0 = 0) (ck (¬ (1498 : Int32) < 0 ∧ ix (1498 : Int32) ≤ 1000000) (lt_ (mA h 20 (ix (1498 : Int32))) fun h1 => ck (kd h1 a0 = 12) (lt_ (sR h1 a0 0 (mN h)) fun h2 => ck (¬ (1498 : Int32) < 0 ∧ ix (1498 : Int32) ≤ 1000000) (lt_ (mA h2 20 (ix (1498 : Int32))) fun h3 => ck (kd h3 a0 = 12) (lt_ (sR h3 a0 1 (mN h2)) fun h4 => ck (¬ (2724 : Int32) < 0 ∧ ix (2724 : Int32) ≤ 1000000) (lt_ (mA h4 20 (ix (2724 : Int32))) fun h5 => ck (kd h5 a0 = 12) (lt_ (sR h5 a0 2 (mN h4)) fun h6 => ck (¬ (300 : Int32) < 0 ∧ ix (300 : Int32) ≤ 1000000) (lt_ (mA h6 20 (ix (300 : Int32))) fun h7 => ck (kd h7 a0 = 12) (lt_ (sR h7 a0 3 (mN h6)) fun h8 => ck (kd h8 a0 = 12) (lt_ (sI h8 a0 5 (-1)) fun h9 => ck (kd h9 a0 = 12) (lt_ (sI h9 a0 6 (-1)) fun h10 => ck (¬ (160 : Int32) < 0 ∧ ix (160 : Int32) ≤ 1000000) (lt_ (mA h10 20 (ix (160 : Int32))) fun h11 => ck (kd h11 a0 = 12) (lt_ (sR h11 a0 15 (mN h10)) fun h12 => ck (¬ (7 : Int32) < 0 ∧ ix (7 : Int32) ≤ 1000000) (lt_ (mA h12 20 (ix (7 : Int32))) fun h13 => ck (kd h13 a0 = 12) (lt_ (sR h13 a0 20 (mN h12)) fun h14 => ck (¬ (330 : Int32) < 0 ∧ ix (330 : Int32) ≤ 1000000) (lt_ (mA h14 21 (ix (330 : Int32))) fun h15 => ck (kd h15 a0 = 12) (lt_ (sR h15 a0 21 (mN h14)) fun h16 => ck (¬ (330 : Int32) < 0 ∧ ix (330 : Int32) ≤ 1000000) (lt_ (mA h16 22 (ix (330 : Int32))) fun h17 => ck (kd h17 a0 = 12) (lt_ (sR h17 a0 22 (mN h16)) fun h18 => ck (kd h18 a0 = 12 ∧ ((1 : Int32) = 0 ∨ (1 : Int32) = 1)) (lt_ (sI h18 a0 23 1) fun h19 => ck (¬ (22 : Int32) < 0 ∧ ix (22 : Int32) ≤ 1000000) (lt_ (mA h19 20 (ix (22 : Int32))) fun h20 => ck (kd h20 a0 = 12) (lt_ (sR h20 a0 25 (mN h19)) fun h21 => ck (¬ (6561 : Int32) < 0 ∧ ix (6561 : Int32) ≤ 1000000) (lt_ (mA h21 20 (ix (6561 : Int32))) fun h22 => ck (kd h22 a0 = 12) (lt_ (sR h22 a0 26 (mN h21)) fun h23 => ck (¬ (6561 : Int32) < 0 ∧ ix (6561 : Int32) ≤ 1000000) (lt_ (mA h23 20 (ix (6561 : Int32))) fun h24 => ck (kd h24 a0 = 12) (lt_ (sR h24 a0 27 (mN h23)) fun h25 => ck (¬ (6561 : Int32) < 0 ∧ ix (6561 : Int32) ≤ 1000000) (lt_ (mA h25 22 (ix (6561 : Int32))) fun h26 => ck (kd h26 a0 = 12) (lt_ (sR h26 a0 28 (mN h25)) fun h27 => ck (¬ (4 : Int32) < 0 ∧ ix (4 : Int32) ≤ 1000000) (lt_ (mA h27 20 (ix (4 : Int32))) fun h28 => ck (kd h28 a0 = 12) (lt_ (sR h28 a0 29 (mN h27)) fun h29 => ck (¬ (4 : Int32) < 0 ∧ ix (4 : Int32) ≤ 1000000) (lt_ (mA h29 20 (ix (4 : Int32))) fun h30 => ck (kd h30 a0 = 12) (lt_ (sR h30 a0 30 (mN h29)) fun h31 => ck (¬ (16 : Int32) < 0 ∧ ix (16 : Int32) ≤ 1000000) (lt_ (mA h31 22 (ix (16 : Int32))) fun h32 => ck (kd h32 a0 = 12) (lt_ (sR h32 a0 31 (mN h31)) fun h33 => ck (¬ (16 : Int32) < 0 ∧ ix (16 : Int32) ≤ 1000000) (lt_ (mA h33 21 (ix (16 : Int32))) fun h34 => ck (kd h34 a0 = 12) (lt_ (sR h34 a0 32 (mN h33)) fun h35 => ck (kd h35 a0 = 12) (ck (kd h35 (gR h35 a0 0) = 20 ∧ ib (7 : Int32) (ln h35 (gR h35 a0 0))) (lt_ (sI h35 (gR h35 a0 0) (ix (7 : Int32)) 349) fun h36 => ck (kd h36 a0 = 12) (ck (kd h36 (gR h36 a0 0) = 20 ∧ ib (3 : Int32) (ln h36 (gR h36 a0 0))) (lt_ (sI h36 (gR h36 a0 0) (ix (3 : Int32)) (-1)) fun h37 => mX (mE mtab d) KX11_init 87 [some (.ref a0), some (.int 0)] [] h37)))))))))))))))))))))))))))))))))))))))) := by
  refine mE_eq (q := (yX11_init, cX11_init, 2, none, KX11_init)) (C := KX11_init) (ls := [some (.ref a0), none]) rfl rfl rfl rfl ?_
  refine mX_to 1 (k' := 1) (ls' := [some (.ref a0), none]) (st' := [.ref a0]) (h' := h) rfl ?_
  refine mX_ck (k' := 2) (ls' := [some (.ref a0), none]) (st' := []) (h' := h) rfl ?_
  refine mX_to 2 (k' := 4) (ls' := [some (.ref a0), none]) (st' := [.int 1498, .ref a0]) (h' := h) rfl ?_
  refine mX_ck (k' := 5) (ls' := [some (.ref a0), none]) (st' := [.ref (mN h), .ref a0]) (h' := (mA h 20 (ix (1498 : Int32)))) rfl ?_
  refine lt_gen (X := fun h1 : MH => mX (mE mtab d) KX11_init 5 [some (.ref a0), none] [.ref (mN h), .ref a0] h1) fun h1 => ?_
  refine mX_ck (k' := 6) (ls' := [some (.ref a0), none]) (st' := []) (h' := (sR h1 a0 0 (mN h))) rfl ?_
  refine lt_gen (X := fun h2 : MH => mX (mE mtab d) KX11_init 6 [some (.ref a0), none] [] h2) fun h2 => ?_
  refine mX_to 2 (k' := 8) (ls' := [some (.ref a0), none]) (st' := [.int 1498, .ref a0]) (h' := h2) rfl ?_
  refine mX_ck (k' := 9) (ls' := [some (.ref a0), none]) (st' := [.ref (mN h2), .ref a0]) (h' := (mA h2 20 (ix (1498 : Int32)))) rfl ?_
  refine lt_gen (X := fun h3 : MH => mX (mE mtab d) KX11_init 9 [some (.ref a0), none] [.ref (mN h2), .ref a0] h3) fun h3 => ?_
  refine mX_ck (k' := 10) (ls' := [some (.ref a0), none]) (st' := []) (h' := (sR h3 a0 1 (mN h2))) rfl ?_
  refine lt_gen (X := fun h4 : MH => mX (mE mtab d) KX11_init 10 [some (.ref a0), none] [] h4) fun h4 => ?_
  refine mX_to 2 (k' := 12) (ls' := [some (.ref a0), none]) (st' := [.int 2724, .ref a0]) (h' := h4) rfl ?_
  refine mX_ck (k' := 13) (ls' := [some (.ref a0), none]) (st' := [.ref (mN h4), .ref a0]) (h' := (mA h4 20 (ix (2724 : Int32)))) rfl ?_
  refine lt_gen (X := fun h5 : MH => mX (mE mtab d) KX11_init 13 [some (.ref a0), none] [.ref (mN h4), .ref a0] h5) fun h5 => ?_
  refine mX_ck (k' := 14) (ls' := [some (.ref a0), none]) (st' := []) (h' := (sR h5 a0 2 (mN h4))) rfl ?_
  refine lt_gen (X := fun h6 : MH => mX (mE mtab d) KX11_init 14 [some (.ref a0), none] [] h6) fun h6 => ?_
  refine mX_to 2 (k' := 16) (ls' := [some (.ref a0), none]) (st' := [.int 300, .ref a0]) (h' := h6) rfl ?_
  refine mX_ck (k' := 17) (ls' := [some (.ref a0), none]) (st' := [.ref (mN h6), .ref a0]) (h' := (mA h6 20 (ix (300 : Int32)))) rfl ?_
  refine lt_gen (X := fun h7 : MH => mX (mE mtab d) KX11_init 17 [some (.ref a0), none] [.ref (mN h6), .ref a0] h7) fun h7 => ?_
  refine mX_ck (k' := 18) (ls' := [some (.ref a0), none]) (st' := []) (h' := (sR h7 a0 3 (mN h6))) rfl ?_
  refine lt_gen (X := fun h8 : MH => mX (mE mtab d) KX11_init 18 [some (.ref a0), none] [] h8) fun h8 => ?_
  refine mX_to 2 (k' := 20) (ls' := [some (.ref a0), none]) (st' := [.int (-1), .ref a0]) (h' := h8) rfl ?_
  refine mX_ck (k' := 21) (ls' := [some (.ref a0), none]) (st' := []) (h' := (sI h8 a0 5 (-1))) rfl ?_
  refine lt_gen (X := fun h9 : MH => mX (mE mtab d) KX11_init 21 [some (.ref a0), none] [] h9) fun h9 => ?_
  refine mX_to 2 (k' := 23) (ls' := [some (.ref a0), none]) (st' := [.int (-1), .ref a0]) (h' := h9) rfl ?_
  refine mX_ck (k' := 24) (ls' := [some (.ref a0), none]) (st' := []) (h' := (sI h9 a0 6 (-1))) rfl ?_
  refine lt_gen (X := fun h10 : MH => mX (mE mtab d) KX11_init 24 [some (.ref a0), none] [] h10) fun h10 => ?_
  refine mX_to 2 (k' := 26) (ls' := [some (.ref a0), none]) (st' := [.int 160, .ref a0]) (h' := h10) rfl ?_
  refine mX_ck (k' := 27) (ls' := [some (.ref a0), none]) (st' := [.ref (mN h10), .ref a0]) (h' := (mA h10 20 (ix (160 : Int32)))) rfl ?_
  refine lt_gen (X := fun h11 : MH => mX (mE mtab d) KX11_init 27 [some (.ref a0), none] [.ref (mN h10), .ref a0] h11) fun h11 => ?_
  refine mX_ck (k' := 28) (ls' := [some (.ref a0), none]) (st' := []) (h' := (sR h11 a0 15 (mN h10))) rfl ?_
  refine lt_gen (X := fun h12 : MH => mX (mE mtab d) KX11_init 28 [some (.ref a0), none] [] h12) fun h12 => ?_
  refine mX_to 2 (k' := 30) (ls' := [some (.ref a0), none]) (st' := [.int 7, .ref a0]) (h' := h12) rfl ?_
  refine mX_ck (k' := 31) (ls' := [some (.ref a0), none]) (st' := [.ref (mN h12), .ref a0]) (h' := (mA h12 20 (ix (7 : Int32)))) rfl ?_
  refine lt_gen (X := fun h13 : MH => mX (mE mtab d) KX11_init 31 [some (.ref a0), none] [.ref (mN h12), .ref a0] h13) fun h13 => ?_
  refine mX_ck (k' := 32) (ls' := [some (.ref a0), none]) (st' := []) (h' := (sR h13 a0 20 (mN h12))) rfl ?_
  refine lt_gen (X := fun h14 : MH => mX (mE mtab d) KX11_init 32 [some (.ref a0), none] [] h14) fun h14 => ?_
  refine mX_to 2 (k' := 34) (ls' := [some (.ref a0), none]) (st' := [.int 330, .ref a0]) (h' := h14) rfl ?_
  refine mX_ck (k' := 35) (ls' := [some (.ref a0), none]) (st' := [.ref (mN h14), .ref a0]) (h' := (mA h14 21 (ix (330 : Int32)))) rfl ?_
  refine lt_gen (X := fun h15 : MH => mX (mE mtab d) KX11_init 35 [some (.ref a0), none] [.ref (mN h14), .ref a0] h15) fun h15 => ?_
  refine mX_ck (k' := 36) (ls' := [some (.ref a0), none]) (st' := []) (h' := (sR h15 a0 21 (mN h14))) rfl ?_
  refine lt_gen (X := fun h16 : MH => mX (mE mtab d) KX11_init 36 [some (.ref a0), none] [] h16) fun h16 => ?_
  refine mX_to 2 (k' := 38) (ls' := [some (.ref a0), none]) (st' := [.int 330, .ref a0]) (h' := h16) rfl ?_
  refine mX_ck (k' := 39) (ls' := [some (.ref a0), none]) (st' := [.ref (mN h16), .ref a0]) (h' := (mA h16 22 (ix (330 : Int32)))) rfl ?_
  refine lt_gen (X := fun h17 : MH => mX (mE mtab d) KX11_init 39 [some (.ref a0), none] [.ref (mN h16), .ref a0] h17) fun h17 => ?_
  refine mX_ck (k' := 40) (ls' := [some (.ref a0), none]) (st' := []) (h' := (sR h17 a0 22 (mN h16))) rfl ?_
  refine lt_gen (X := fun h18 : MH => mX (mE mtab d) KX11_init 40 [some (.ref a0), none] [] h18) fun h18 => ?_
  refine mX_to 2 (k' := 42) (ls' := [some (.ref a0), none]) (st' := [.int 1, .ref a0]) (h' := h18) rfl ?_
  refine mX_ck (k' := 43) (ls' := [some (.ref a0), none]) (st' := []) (h' := (sI h18 a0 23 1)) rfl ?_
  refine lt_gen (X := fun h19 : MH => mX (mE mtab d) KX11_init 43 [some (.ref a0), none] [] h19) fun h19 => ?_
  refine mX_to 2 (k' := 45) (ls' := [some (.ref a0), none]) (st' := [.int 22, .ref a0]) (h' := h19) rfl ?_
  refine mX_ck (k' := 46) (ls' := [some (.ref a0), none]) (st' := [.ref (mN h19), .ref a0]) (h' := (mA h19 20 (ix (22 : Int32)))) rfl ?_
  refine lt_gen (X := fun h20 : MH => mX (mE mtab d) KX11_init 46 [some (.ref a0), none] [.ref (mN h19), .ref a0] h20) fun h20 => ?_
  refine mX_ck (k' := 47) (ls' := [some (.ref a0), none]) (st' := []) (h' := (sR h20 a0 25 (mN h19))) rfl ?_
  refine lt_gen (X := fun h21 : MH => mX (mE mtab d) KX11_init 47 [some (.ref a0), none] [] h21) fun h21 => ?_
  refine mX_to 2 (k' := 49) (ls' := [some (.ref a0), none]) (st' := [.int 6561, .ref a0]) (h' := h21) rfl ?_
  refine mX_ck (k' := 50) (ls' := [some (.ref a0), none]) (st' := [.ref (mN h21), .ref a0]) (h' := (mA h21 20 (ix (6561 : Int32)))) rfl ?_
  refine lt_gen (X := fun h22 : MH => mX (mE mtab d) KX11_init 50 [some (.ref a0), none] [.ref (mN h21), .ref a0] h22) fun h22 => ?_
  refine mX_ck (k' := 51) (ls' := [some (.ref a0), none]) (st' := []) (h' := (sR h22 a0 26 (mN h21))) rfl ?_
  refine lt_gen (X := fun h23 : MH => mX (mE mtab d) KX11_init 51 [some (.ref a0), none] [] h23) fun h23 => ?_
  refine mX_to 2 (k' := 53) (ls' := [some (.ref a0), none]) (st' := [.int 6561, .ref a0]) (h' := h23) rfl ?_
  refine mX_ck (k' := 54) (ls' := [some (.ref a0), none]) (st' := [.ref (mN h23), .ref a0]) (h' := (mA h23 20 (ix (6561 : Int32)))) rfl ?_
  refine lt_gen (X := fun h24 : MH => mX (mE mtab d) KX11_init 54 [some (.ref a0), none] [.ref (mN h23), .ref a0] h24) fun h24 => ?_
  refine mX_ck (k' := 55) (ls' := [some (.ref a0), none]) (st' := []) (h' := (sR h24 a0 27 (mN h23))) rfl ?_
  refine lt_gen (X := fun h25 : MH => mX (mE mtab d) KX11_init 55 [some (.ref a0), none] [] h25) fun h25 => ?_
  refine mX_to 2 (k' := 57) (ls' := [some (.ref a0), none]) (st' := [.int 6561, .ref a0]) (h' := h25) rfl ?_
  refine mX_ck (k' := 58) (ls' := [some (.ref a0), none]) (st' := [.ref (mN h25), .ref a0]) (h' := (mA h25 22 (ix (6561 : Int32)))) rfl ?_
  refine lt_gen (X := fun h26 : MH => mX (mE mtab d) KX11_init 58 [some (.ref a0), none] [.ref (mN h25), .ref a0] h26) fun h26 => ?_
  refine mX_ck (k' := 59) (ls' := [some (.ref a0), none]) (st' := []) (h' := (sR h26 a0 28 (mN h25))) rfl ?_
  refine lt_gen (X := fun h27 : MH => mX (mE mtab d) KX11_init 59 [some (.ref a0), none] [] h27) fun h27 => ?_
  refine mX_to 2 (k' := 61) (ls' := [some (.ref a0), none]) (st' := [.int 4, .ref a0]) (h' := h27) rfl ?_
  refine mX_ck (k' := 62) (ls' := [some (.ref a0), none]) (st' := [.ref (mN h27), .ref a0]) (h' := (mA h27 20 (ix (4 : Int32)))) rfl ?_
  refine lt_gen (X := fun h28 : MH => mX (mE mtab d) KX11_init 62 [some (.ref a0), none] [.ref (mN h27), .ref a0] h28) fun h28 => ?_
  refine mX_ck (k' := 63) (ls' := [some (.ref a0), none]) (st' := []) (h' := (sR h28 a0 29 (mN h27))) rfl ?_
  refine lt_gen (X := fun h29 : MH => mX (mE mtab d) KX11_init 63 [some (.ref a0), none] [] h29) fun h29 => ?_
  refine mX_to 2 (k' := 65) (ls' := [some (.ref a0), none]) (st' := [.int 4, .ref a0]) (h' := h29) rfl ?_
  refine mX_ck (k' := 66) (ls' := [some (.ref a0), none]) (st' := [.ref (mN h29), .ref a0]) (h' := (mA h29 20 (ix (4 : Int32)))) rfl ?_
  refine lt_gen (X := fun h30 : MH => mX (mE mtab d) KX11_init 66 [some (.ref a0), none] [.ref (mN h29), .ref a0] h30) fun h30 => ?_
  refine mX_ck (k' := 67) (ls' := [some (.ref a0), none]) (st' := []) (h' := (sR h30 a0 30 (mN h29))) rfl ?_
  refine lt_gen (X := fun h31 : MH => mX (mE mtab d) KX11_init 67 [some (.ref a0), none] [] h31) fun h31 => ?_
  refine mX_to 2 (k' := 69) (ls' := [some (.ref a0), none]) (st' := [.int 16, .ref a0]) (h' := h31) rfl ?_
  refine mX_ck (k' := 70) (ls' := [some (.ref a0), none]) (st' := [.ref (mN h31), .ref a0]) (h' := (mA h31 22 (ix (16 : Int32)))) rfl ?_
  refine lt_gen (X := fun h32 : MH => mX (mE mtab d) KX11_init 70 [some (.ref a0), none] [.ref (mN h31), .ref a0] h32) fun h32 => ?_
  refine mX_ck (k' := 71) (ls' := [some (.ref a0), none]) (st' := []) (h' := (sR h32 a0 31 (mN h31))) rfl ?_
  refine lt_gen (X := fun h33 : MH => mX (mE mtab d) KX11_init 71 [some (.ref a0), none] [] h33) fun h33 => ?_
  refine mX_to 2 (k' := 73) (ls' := [some (.ref a0), none]) (st' := [.int 16, .ref a0]) (h' := h33) rfl ?_
  refine mX_ck (k' := 74) (ls' := [some (.ref a0), none]) (st' := [.ref (mN h33), .ref a0]) (h' := (mA h33 21 (ix (16 : Int32)))) rfl ?_
  refine lt_gen (X := fun h34 : MH => mX (mE mtab d) KX11_init 74 [some (.ref a0), none] [.ref (mN h33), .ref a0] h34) fun h34 => ?_
  refine mX_ck (k' := 75) (ls' := [some (.ref a0), none]) (st' := []) (h' := (sR h34 a0 32 (mN h33))) rfl ?_
  refine lt_gen (X := fun h35 : MH => mX (mE mtab d) KX11_init 75 [some (.ref a0), none] [] h35) fun h35 => ?_
  refine mX_to 1 (k' := 76) (ls' := [some (.ref a0), none]) (st' := [.ref a0]) (h' := h35) rfl ?_
  refine mX_ck (k' := 77) (ls' := [some (.ref a0), none]) (st' := [.ref (gR h35 a0 0)]) (h' := h35) rfl ?_
  refine mX_to 2 (k' := 79) (ls' := [some (.ref a0), none]) (st' := [.int 349, .int 7, .ref (gR h35 a0 0)]) (h' := h35) rfl ?_
  refine mX_ck (k' := 80) (ls' := [some (.ref a0), none]) (st' := []) (h' := (sI h35 (gR h35 a0 0) (ix (7 : Int32)) 349)) rfl ?_
  refine lt_gen (X := fun h36 : MH => mX (mE mtab d) KX11_init 80 [some (.ref a0), none] [] h36) fun h36 => ?_
  refine mX_to 1 (k' := 81) (ls' := [some (.ref a0), none]) (st' := [.ref a0]) (h' := h36) rfl ?_
  refine mX_ck (k' := 82) (ls' := [some (.ref a0), none]) (st' := [.ref (gR h36 a0 0)]) (h' := h36) rfl ?_
  refine mX_to 2 (k' := 84) (ls' := [some (.ref a0), none]) (st' := [.int (-1), .int 3, .ref (gR h36 a0 0)]) (h' := h36) rfl ?_
  refine mX_ck (k' := 85) (ls' := [some (.ref a0), none]) (st' := []) (h' := (sI h36 (gR h36 a0 0) (ix (3 : Int32)) (-1))) rfl ?_
  refine lt_gen (X := fun h37 : MH => mX (mE mtab d) KX11_init 85 [some (.ref a0), none] [] h37) fun h37 => ?_
  refine mX_to 2 (k' := 87) (ls' := [some (.ref a0), some (.int 0)]) (st' := []) (h' := h37) rfl ?_
  rfl
theorem D_X10_within (d : Nat) (h : MH) (a0 : Int32) (a1 : Int32) (a2 : Int32) : mE mtab (d + 1) 11 [.int a0, .int a1, .int a2] h = (if a0 < a1 then some (.int 0, h) else (if a0 ≤ a2 then some (.int 1, h) else some (.int 0, h))) := by
  refine mE_eq (q := (yX10_within, cX10_within, 3, (some .boolean), KX10_within)) (C := KX10_within) (ls := [some (.int a0), some (.int a1), some (.int a2)]) rfl rfl rfl rfl ?_
  refine mX_to 2 (k' := 2) (ls' := [some (.int a0), some (.int a1), some (.int a2)]) (st' := [.int a1, .int a0]) (h' := h) rfl ?_
  refine mX_br (t := 8) (f := 3) (ls' := [some (.int a0), some (.int a1), some (.int a2)]) (st' := []) (h' := h) rfl ?_ ?_
  · refine mX_to 1 (k' := 9) (ls' := [some (.int a0), some (.int a1), some (.int a2)]) (st' := [.int 0]) (h' := h) rfl ?_
    exact mX_retb (by decide) rfl
  · refine mX_to 2 (k' := 5) (ls' := [some (.int a0), some (.int a1), some (.int a2)]) (st' := [.int a2, .int a0]) (h' := h) rfl ?_
    refine mX_br (t := 6) (f := 8) (ls' := [some (.int a0), some (.int a1), some (.int a2)]) (st' := []) (h' := h) rfl ?_ ?_
    · refine mX_to 2 (k' := 9) (ls' := [some (.int a0), some (.int a1), some (.int a2)]) (st' := [.int 1]) (h' := h) rfl ?_
      exact mX_retb (by decide) rfl
    · refine mX_to 1 (k' := 9) (ls' := [some (.int a0), some (.int a1), some (.int a2)]) (st' := [.int 0]) (h' := h) rfl ?_
      exact mX_retb (by decide) rfl
theorem D_X9_settle (d : Nat) (h : MH) (a0 : Nat) (a1 : Int32) (a2 : Int32) : mE mtab (d + 1) 12 [.ref a0, .int a1, .int a2] h = ck (kd h a0 = 10) ((if (gI h a0 0) < 4 then ck (kd h a0 = 10) (ck (kd h a0 = 10) (ck (kd h (gR h a0 1) = 20 ∧ ib (gI h a0 0) (ln h (gR h a0 1))) (lt_ (sI h (gR h a0 1) (ix (gI h a0 0)) a1) fun h1 => ck (kd h1 a0 = 10) (ck (kd h1 a0 = 10) (ck (kd h1 (gR h1 a0 2) = 20 ∧ ib (gI h1 a0 0) (ln h1 (gR h1 a0 2))) (lt_ (sI h1 (gR h1 a0 2) (ix (gI h1 a0 0)) a2) fun h2 => ck (kd h2 a0 = 10) (ck (kd h2 a0 = 10) (ck (kd h2 (gR h2 a0 3) = 20 ∧ ib (gI h2 a0 0) (ln h2 (gR h2 a0 3))) (lt_ (sI h2 (gR h2 a0 3) (ix (gI h2 a0 0)) (-1)) fun h3 => ck (kd h3 a0 = 10) (ck (kd h3 a0 = 10) (lt_ (sI h3 a0 0 ((gI h3 a0 0) + 1)) fun h4 => ck (kd h4 a0 = 10) (some (.int ((gI h4 a0 0) - 1), h4))))))))))))) else some (.int (-1), h))) := by
  refine mE_eq (q := (yX9_settle, cX9_settle, 3, (some .int), KX9_settle)) (C := KX9_settle) (ls := [some (.ref a0), some (.int a1), some (.int a2)]) rfl rfl rfl rfl ?_
  refine mX_to 1 (k' := 1) (ls' := [some (.ref a0), some (.int a1), some (.int a2)]) (st' := [.ref a0]) (h' := h) rfl ?_
  refine mX_ck (k' := 2) (ls' := [some (.ref a0), some (.int a1), some (.int a2)]) (st' := [.int (gI h a0 0)]) (h' := h) rfl ?_
  refine mX_to 1 (k' := 3) (ls' := [some (.ref a0), some (.int a1), some (.int a2)]) (st' := [.int 4, .int (gI h a0 0)]) (h' := h) rfl ?_
  refine mX_br (t := 6) (f := 4) (ls' := [some (.ref a0), some (.int a1), some (.int a2)]) (st' := []) (h' := h) rfl ?_ ?_
  · refine mX_to 1 (k' := 7) (ls' := [some (.ref a0), some (.int a1), some (.int a2)]) (st' := [.ref a0]) (h' := h) rfl ?_
    refine mX_ck (k' := 8) (ls' := [some (.ref a0), some (.int a1), some (.int a2)]) (st' := [.ref (gR h a0 1)]) (h' := h) rfl ?_
    refine mX_to 1 (k' := 9) (ls' := [some (.ref a0), some (.int a1), some (.int a2)]) (st' := [.ref a0, .ref (gR h a0 1)]) (h' := h) rfl ?_
    refine mX_ck (k' := 10) (ls' := [some (.ref a0), some (.int a1), some (.int a2)]) (st' := [.int (gI h a0 0), .ref (gR h a0 1)]) (h' := h) rfl ?_
    refine mX_to 1 (k' := 11) (ls' := [some (.ref a0), some (.int a1), some (.int a2)]) (st' := [.int a1, .int (gI h a0 0), .ref (gR h a0 1)]) (h' := h) rfl ?_
    refine mX_ck (k' := 12) (ls' := [some (.ref a0), some (.int a1), some (.int a2)]) (st' := []) (h' := (sI h (gR h a0 1) (ix (gI h a0 0)) a1)) rfl ?_
    refine lt_gen (X := fun h1 : MH => mX (mE mtab d) KX9_settle 12 [some (.ref a0), some (.int a1), some (.int a2)] [] h1) fun h1 => ?_
    refine mX_to 1 (k' := 13) (ls' := [some (.ref a0), some (.int a1), some (.int a2)]) (st' := [.ref a0]) (h' := h1) rfl ?_
    refine mX_ck (k' := 14) (ls' := [some (.ref a0), some (.int a1), some (.int a2)]) (st' := [.ref (gR h1 a0 2)]) (h' := h1) rfl ?_
    refine mX_to 1 (k' := 15) (ls' := [some (.ref a0), some (.int a1), some (.int a2)]) (st' := [.ref a0, .ref (gR h1 a0 2)]) (h' := h1) rfl ?_
    refine mX_ck (k' := 16) (ls' := [some (.ref a0), some (.int a1), some (.int a2)]) (st' := [.int (gI h1 a0 0), .ref (gR h1 a0 2)]) (h' := h1) rfl ?_
    refine mX_to 1 (k' := 17) (ls' := [some (.ref a0), some (.int a1), some (.int a2)]) (st' := [.int a2, .int (gI h1 a0 0), .ref (gR h1 a0 2)]) (h' := h1) rfl ?_
    refine mX_ck (k' := 18) (ls' := [some (.ref a0), some (.int a1), some (.int a2)]) (st' := []) (h' := (sI h1 (gR h1 a0 2) (ix (gI h1 a0 0)) a2)) rfl ?_
    refine lt_gen (X := fun h2 : MH => mX (mE mtab d) KX9_settle 18 [some (.ref a0), some (.int a1), some (.int a2)] [] h2) fun h2 => ?_
    refine mX_to 1 (k' := 19) (ls' := [some (.ref a0), some (.int a1), some (.int a2)]) (st' := [.ref a0]) (h' := h2) rfl ?_
    refine mX_ck (k' := 20) (ls' := [some (.ref a0), some (.int a1), some (.int a2)]) (st' := [.ref (gR h2 a0 3)]) (h' := h2) rfl ?_
    refine mX_to 1 (k' := 21) (ls' := [some (.ref a0), some (.int a1), some (.int a2)]) (st' := [.ref a0, .ref (gR h2 a0 3)]) (h' := h2) rfl ?_
    refine mX_ck (k' := 22) (ls' := [some (.ref a0), some (.int a1), some (.int a2)]) (st' := [.int (gI h2 a0 0), .ref (gR h2 a0 3)]) (h' := h2) rfl ?_
    refine mX_to 1 (k' := 23) (ls' := [some (.ref a0), some (.int a1), some (.int a2)]) (st' := [.int (-1), .int (gI h2 a0 0), .ref (gR h2 a0 3)]) (h' := h2) rfl ?_
    refine mX_ck (k' := 24) (ls' := [some (.ref a0), some (.int a1), some (.int a2)]) (st' := []) (h' := (sI h2 (gR h2 a0 3) (ix (gI h2 a0 0)) (-1))) rfl ?_
    refine lt_gen (X := fun h3 : MH => mX (mE mtab d) KX9_settle 24 [some (.ref a0), some (.int a1), some (.int a2)] [] h3) fun h3 => ?_
    refine mX_to 2 (k' := 26) (ls' := [some (.ref a0), some (.int a1), some (.int a2)]) (st' := [.ref a0, .ref a0]) (h' := h3) rfl ?_
    refine mX_ck (k' := 27) (ls' := [some (.ref a0), some (.int a1), some (.int a2)]) (st' := [.int (gI h3 a0 0), .ref a0]) (h' := h3) rfl ?_
    refine mX_to 2 (k' := 29) (ls' := [some (.ref a0), some (.int a1), some (.int a2)]) (st' := [.int ((gI h3 a0 0) + 1), .ref a0]) (h' := h3) rfl ?_
    refine mX_ck (k' := 30) (ls' := [some (.ref a0), some (.int a1), some (.int a2)]) (st' := []) (h' := (sI h3 a0 0 ((gI h3 a0 0) + 1))) rfl ?_
    refine lt_gen (X := fun h4 : MH => mX (mE mtab d) KX9_settle 30 [some (.ref a0), some (.int a1), some (.int a2)] [] h4) fun h4 => ?_
    refine mX_to 1 (k' := 31) (ls' := [some (.ref a0), some (.int a1), some (.int a2)]) (st' := [.ref a0]) (h' := h4) rfl ?_
    refine mX_ck (k' := 32) (ls' := [some (.ref a0), some (.int a1), some (.int a2)]) (st' := [.int (gI h4 a0 0)]) (h' := h4) rfl ?_
    refine mX_to 2 (k' := 34) (ls' := [some (.ref a0), some (.int a1), some (.int a2)]) (st' := [.int ((gI h4 a0 0) - 1)]) (h' := h4) rfl ?_
    exact mX_reti rfl
  · refine mX_to 1 (k' := 5) (ls' := [some (.ref a0), some (.int a1), some (.int a2)]) (st' := [.int (-1)]) (h' := h) rfl ?_
    exact mX_reti rfl
theorem D_X10_person (d : Nat) (h : MH) (a0 : Nat) (a1 : Int32) (a2 : Int32) : mE mtab (d + 1) 13 [.ref a0, .int a1, .int a2] h = cI (mE mtab d 11 [.int a1, .int 1, .int 9] h) (fun x2 h1 => (if x2 = 0 then some (.int (-1), h1) else cI (mE mtab d 11 [.int a2, .int 0, .int 8] h1) (fun x4 h3 => (if x4 = 0 then some (.int (-1), h3) else ck (kd h3 a0 = 11) (ck (kd h3 (gR h3 a0 0) = 1) (ck (kd h3 (gR h3 (gR h3 a0 0) 0) = 10) (cI (mE mtab d 12 [.ref (gR h3 (gR h3 a0 0) 0), .int a1, .int a2] h3) (fun x6 h5 => some (.int x6, h5))))))))) := by
  refine mE_eq (q := (yX10_person, cX10_person, 3, (some .int), KX10_person)) (C := KX10_person) (ls := [some (.ref a0), some (.int a1), some (.int a2)]) rfl rfl rfl rfl ?_
  refine mX_to 3 (k' := 3) (ls' := [some (.ref a0), some (.int a1), some (.int a2)]) (st' := [.int 9, .int 1, .int a1]) (h' := h) rfl ?_
  refine mX_cI (o := mE mtab d 11 [.int a1, .int 1, .int 9] h) (k' := 4) (ls' := [some (.ref a0), some (.int a1), some (.int a2)]) (st' := []) rfl ?_
  intro x2 h1
  refine mX_br (t := 10) (f := 5) (ls' := [some (.ref a0), some (.int a1), some (.int a2)]) (st' := []) (h' := h1) rfl ?_ ?_
  · refine mX_to 1 (k' := 11) (ls' := [some (.ref a0), some (.int a1), some (.int a2)]) (st' := [.int (-1)]) (h' := h1) rfl ?_
    exact mX_reti rfl
  · refine mX_to 3 (k' := 8) (ls' := [some (.ref a0), some (.int a1), some (.int a2)]) (st' := [.int 8, .int 0, .int a2]) (h' := h1) rfl ?_
    refine mX_cI (o := mE mtab d 11 [.int a2, .int 0, .int 8] h1) (k' := 9) (ls' := [some (.ref a0), some (.int a1), some (.int a2)]) (st' := []) rfl ?_
    intro x4 h3
    refine mX_br (t := 10) (f := 12) (ls' := [some (.ref a0), some (.int a1), some (.int a2)]) (st' := []) (h' := h3) rfl ?_ ?_
    · refine mX_to 1 (k' := 11) (ls' := [some (.ref a0), some (.int a1), some (.int a2)]) (st' := [.int (-1)]) (h' := h3) rfl ?_
      exact mX_reti rfl
    · refine mX_to 1 (k' := 13) (ls' := [some (.ref a0), some (.int a1), some (.int a2)]) (st' := [.ref a0]) (h' := h3) rfl ?_
      refine mX_ck (k' := 14) (ls' := [some (.ref a0), some (.int a1), some (.int a2)]) (st' := [.ref (gR h3 a0 0)]) (h' := h3) rfl ?_
      refine mX_ck (k' := 15) (ls' := [some (.ref a0), some (.int a1), some (.int a2)]) (st' := [.ref (gR h3 (gR h3 a0 0) 0)]) (h' := h3) rfl ?_
      refine mX_to 2 (k' := 17) (ls' := [some (.ref a0), some (.int a1), some (.int a2)]) (st' := [.int a2, .int a1, .ref (gR h3 (gR h3 a0 0) 0)]) (h' := h3) rfl ?_
      refine mX_ckc (m := mcl (mE mtab d 12 [.ref (gR h3 (gR h3 a0 0) 0), .int a1, .int a2] h3) 1 18 [some (.ref a0), some (.int a1), some (.int a2)] []) rfl ?_
      refine mk_cI ?_
      intro x6 h5
      exact mX_reti rfl
theorem D_X11_isIn (d : Nat) (h : MH) (a0 : Int32) (a1 : Int32) (a2 : Int32) : mE mtab (d + 1) 14 [.int a0, .int a1, .int a2] h = (if a0 < a1 then some (.int 0, h) else (if a0 ≤ a2 then some (.int 1, h) else some (.int 0, h))) := by
  refine mE_eq (q := (yX11_isIn, cX11_isIn, 3, (some .boolean), KX11_isIn)) (C := KX11_isIn) (ls := [some (.int a0), some (.int a1), some (.int a2)]) rfl rfl rfl rfl ?_
  refine mX_to 2 (k' := 2) (ls' := [some (.int a0), some (.int a1), some (.int a2)]) (st' := [.int a1, .int a0]) (h' := h) rfl ?_
  refine mX_br (t := 8) (f := 3) (ls' := [some (.int a0), some (.int a1), some (.int a2)]) (st' := []) (h' := h) rfl ?_ ?_
  · refine mX_to 1 (k' := 9) (ls' := [some (.int a0), some (.int a1), some (.int a2)]) (st' := [.int 0]) (h' := h) rfl ?_
    exact mX_retb (by decide) rfl
  · refine mX_to 2 (k' := 5) (ls' := [some (.int a0), some (.int a1), some (.int a2)]) (st' := [.int a2, .int a0]) (h' := h) rfl ?_
    refine mX_br (t := 6) (f := 8) (ls' := [some (.int a0), some (.int a1), some (.int a2)]) (st' := []) (h' := h) rfl ?_ ?_
    · refine mX_to 2 (k' := 9) (ls' := [some (.int a0), some (.int a1), some (.int a2)]) (st' := [.int 1]) (h' := h) rfl ?_
      exact mX_retb (by decide) rfl
    · refine mX_to 1 (k' := 9) (ls' := [some (.int a0), some (.int a1), some (.int a2)]) (st' := [.int 0]) (h' := h) rfl ?_
      exact mX_retb (by decide) rfl
