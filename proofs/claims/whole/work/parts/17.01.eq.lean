/-! EQUATIONS OF THE METHODS (written by wip/gen/dgen.py) -/
theorem D_X11_isPlace (d : Nat) (h : MH) (a0 : Int32) : mE mtab (d + 1) 15 [.int a0] h = cI (mE mtab d 14 [.int a0, .int 0, .int 8] h) (fun x2 h1 => ck (mrt 1 x2) (some (.int x2, h1))) := by
  refine mE_eq (q := (yX11_isPlace, cX11_isPlace, 1, (some .boolean), KX11_isPlace)) (C := KX11_isPlace) (ls := [some (.int a0)]) rfl rfl rfl rfl ?_
  refine mX_to 3 (k' := 3) (ls' := [some (.int a0)]) (st' := [.int 8, .int 0, .int a0]) (h' := h) rfl ?_
  refine mX_cI (o := mE mtab d 14 [.int a0, .int 0, .int 8] h) (k' := 4) (ls' := [some (.int a0)]) (st' := []) rfl ?_
  intro x2 h1
  exact mX_retc rfl
theorem D_X11_person (d : Nat) (h : MH) (a0 : Nat) (a1 : Int32) (a2 : Int32) : mE mtab (d + 1) 16 [.ref a0, .int a1, .int a2] h = cI (mE mtab d 14 [.int a1, .int 1, .int 9] h) (fun x2 h1 => (if x2 = 0 then some (.int (-1), h1) else cI (mE mtab d 15 [.int a2] h1) (fun x4 h3 => (if x4 = 0 then some (.int (-1), h3) else ck (kd h3 a0 = 12) (ck ((kd h3 (gR h3 a0 0) = 20 ∨ kd h3 (gR h3 a0 0) = 24) ∧ ib (0 : Int32) (ln h3 (gR h3 a0 0))) ((if (gI h3 (gR h3 a0 0) (ix (0 : Int32))) = 4 then some (.int (-1), h3) else ck (kd h3 a0 = 12) (ck ((kd h3 (gR h3 a0 0) = 20 ∨ kd h3 (gR h3 a0 0) = 24) ∧ ib (0 : Int32) (ln h3 (gR h3 a0 0))) (lt_ (gI h3 (gR h3 a0 0) (ix (0 : Int32))) fun v5 => ck (kd h3 a0 = 12) (ck (kd h3 (gR h3 a0 0) = 20 ∧ ib (22 + v5) (ln h3 (gR h3 a0 0))) (lt_ (sI h3 (gR h3 a0 0) (ix (22 + v5)) a1) fun h6 => ck (kd h6 a0 = 12) (ck (kd h6 (gR h6 a0 0) = 20 ∧ ib (26 + v5) (ln h6 (gR h6 a0 0))) (lt_ (sI h6 (gR h6 a0 0) (ix (26 + v5)) a2) fun h7 => ck (kd h7 a0 = 12) (ck (kd h7 (gR h7 a0 0) = 20 ∧ ib (9 + v5) (ln h7 (gR h7 a0 0))) (lt_ (sI h7 (gR h7 a0 0) (ix (9 + v5)) a2) fun h8 => ck (kd h8 a0 = 12) (ck ((kd h8 (gR h8 a0 0) = 20 ∨ kd h8 (gR h8 a0 0) = 24) ∧ ib (0 : Int32) (ln h8 (gR h8 a0 0))) (ck (kd h8 (gR h8 a0 0) = 20 ∧ ib (0 : Int32) (ln h8 (gR h8 a0 0))) (lt_ (sI h8 (gR h8 a0 0) (ix (0 : Int32)) ((gI h8 (gR h8 a0 0) (ix (0 : Int32))) + 1)) fun h9 => some (.int v5, h9))))))))))))))))))) := by
  refine mE_eq (q := (yX11_person, cX11_person, 4, (some .int), KX11_person)) (C := KX11_person) (ls := [some (.ref a0), some (.int a1), some (.int a2), none]) rfl rfl rfl rfl ?_
  refine mX_to 3 (k' := 3) (ls' := [some (.ref a0), some (.int a1), some (.int a2), none]) (st' := [.int 9, .int 1, .int a1]) (h' := h) rfl ?_
  refine mX_cI (o := mE mtab d 14 [.int a1, .int 1, .int 9] h) (k' := 4) (ls' := [some (.ref a0), some (.int a1), some (.int a2), none]) (st' := []) rfl ?_
  intro x2 h1
  refine mX_br (t := 14) (f := 5) (ls' := [some (.ref a0), some (.int a1), some (.int a2), none]) (st' := []) (h' := h1) rfl ?_ ?_
  · refine mX_to 1 (k' := 15) (ls' := [some (.ref a0), some (.int a1), some (.int a2), none]) (st' := [.int (-1)]) (h' := h1) rfl ?_
    exact mX_reti rfl
  · refine mX_to 1 (k' := 6) (ls' := [some (.ref a0), some (.int a1), some (.int a2), none]) (st' := [.int a2]) (h' := h1) rfl ?_
    refine mX_cI (o := mE mtab d 15 [.int a2] h1) (k' := 7) (ls' := [some (.ref a0), some (.int a1), some (.int a2), none]) (st' := []) rfl ?_
    intro x4 h3
    refine mX_br (t := 14) (f := 8) (ls' := [some (.ref a0), some (.int a1), some (.int a2), none]) (st' := []) (h' := h3) rfl ?_ ?_
    · refine mX_to 1 (k' := 15) (ls' := [some (.ref a0), some (.int a1), some (.int a2), none]) (st' := [.int (-1)]) (h' := h3) rfl ?_
      exact mX_reti rfl
    · refine mX_to 1 (k' := 9) (ls' := [some (.ref a0), some (.int a1), some (.int a2), none]) (st' := [.ref a0]) (h' := h3) rfl ?_
      refine mX_ck (k' := 10) (ls' := [some (.ref a0), some (.int a1), some (.int a2), none]) (st' := [.ref (gR h3 a0 0)]) (h' := h3) rfl ?_
      refine mX_to 1 (k' := 11) (ls' := [some (.ref a0), some (.int a1), some (.int a2), none]) (st' := [.int 0, .ref (gR h3 a0 0)]) (h' := h3) rfl ?_
      refine mX_ck (k' := 12) (ls' := [some (.ref a0), some (.int a1), some (.int a2), none]) (st' := [.int (gI h3 (gR h3 a0 0) (ix (0 : Int32)))]) (h' := h3) rfl ?_
      refine mX_to 1 (k' := 13) (ls' := [some (.ref a0), some (.int a1), some (.int a2), none]) (st' := [.int 4, .int (gI h3 (gR h3 a0 0) (ix (0 : Int32)))]) (h' := h3) rfl ?_
      refine mX_br (t := 14) (f := 16) (ls' := [some (.ref a0), some (.int a1), some (.int a2), none]) (st' := []) (h' := h3) rfl ?_ ?_
      · refine mX_to 1 (k' := 15) (ls' := [some (.ref a0), some (.int a1), some (.int a2), none]) (st' := [.int (-1)]) (h' := h3) rfl ?_
        exact mX_reti rfl
      · refine mX_to 1 (k' := 17) (ls' := [some (.ref a0), some (.int a1), some (.int a2), none]) (st' := [.ref a0]) (h' := h3) rfl ?_
        refine mX_ck (k' := 18) (ls' := [some (.ref a0), some (.int a1), some (.int a2), none]) (st' := [.ref (gR h3 a0 0)]) (h' := h3) rfl ?_
        refine mX_to 1 (k' := 19) (ls' := [some (.ref a0), some (.int a1), some (.int a2), none]) (st' := [.int 0, .ref (gR h3 a0 0)]) (h' := h3) rfl ?_
        refine mX_ck (k' := 20) (ls' := [some (.ref a0), some (.int a1), some (.int a2), none]) (st' := [.int (gI h3 (gR h3 a0 0) (ix (0 : Int32)))]) (h' := h3) rfl ?_
        refine lt_gen (X := fun v5 : Int32 => mX (mE mtab d) KX11_person 20 [some (.ref a0), some (.int a1), some (.int a2), none] [.int v5] h3) fun v5 => ?_
        refine mX_to 2 (k' := 22) (ls' := [some (.ref a0), some (.int a1), some (.int a2), some (.int v5)]) (st' := [.ref a0]) (h' := h3) rfl ?_
        refine mX_ck (k' := 23) (ls' := [some (.ref a0), some (.int a1), some (.int a2), some (.int v5)]) (st' := [.ref (gR h3 a0 0)]) (h' := h3) rfl ?_
        refine mX_to 4 (k' := 27) (ls' := [some (.ref a0), some (.int a1), some (.int a2), some (.int v5)]) (st' := [.int a1, .int (22 + v5), .ref (gR h3 a0 0)]) (h' := h3) rfl ?_
        refine mX_ck (k' := 28) (ls' := [some (.ref a0), some (.int a1), some (.int a2), some (.int v5)]) (st' := []) (h' := (sI h3 (gR h3 a0 0) (ix (22 + v5)) a1)) rfl ?_
        refine lt_gen (X := fun h6 : MH => mX (mE mtab d) KX11_person 28 [some (.ref a0), some (.int a1), some (.int a2), some (.int v5)] [] h6) fun h6 => ?_
        refine mX_to 1 (k' := 29) (ls' := [some (.ref a0), some (.int a1), some (.int a2), some (.int v5)]) (st' := [.ref a0]) (h' := h6) rfl ?_
        refine mX_ck (k' := 30) (ls' := [some (.ref a0), some (.int a1), some (.int a2), some (.int v5)]) (st' := [.ref (gR h6 a0 0)]) (h' := h6) rfl ?_
        refine mX_to 4 (k' := 34) (ls' := [some (.ref a0), some (.int a1), some (.int a2), some (.int v5)]) (st' := [.int a2, .int (26 + v5), .ref (gR h6 a0 0)]) (h' := h6) rfl ?_
        refine mX_ck (k' := 35) (ls' := [some (.ref a0), some (.int a1), some (.int a2), some (.int v5)]) (st' := []) (h' := (sI h6 (gR h6 a0 0) (ix (26 + v5)) a2)) rfl ?_
        refine lt_gen (X := fun h7 : MH => mX (mE mtab d) KX11_person 35 [some (.ref a0), some (.int a1), some (.int a2), some (.int v5)] [] h7) fun h7 => ?_
        refine mX_to 1 (k' := 36) (ls' := [some (.ref a0), some (.int a1), some (.int a2), some (.int v5)]) (st' := [.ref a0]) (h' := h7) rfl ?_
        refine mX_ck (k' := 37) (ls' := [some (.ref a0), some (.int a1), some (.int a2), some (.int v5)]) (st' := [.ref (gR h7 a0 0)]) (h' := h7) rfl ?_
        refine mX_to 4 (k' := 41) (ls' := [some (.ref a0), some (.int a1), some (.int a2), some (.int v5)]) (st' := [.int a2, .int (9 + v5), .ref (gR h7 a0 0)]) (h' := h7) rfl ?_
        refine mX_ck (k' := 42) (ls' := [some (.ref a0), some (.int a1), some (.int a2), some (.int v5)]) (st' := []) (h' := (sI h7 (gR h7 a0 0) (ix (9 + v5)) a2)) rfl ?_
        refine lt_gen (X := fun h8 : MH => mX (mE mtab d) KX11_person 42 [some (.ref a0), some (.int a1), some (.int a2), some (.int v5)] [] h8) fun h8 => ?_
        refine mX_to 1 (k' := 43) (ls' := [some (.ref a0), some (.int a1), some (.int a2), some (.int v5)]) (st' := [.ref a0]) (h' := h8) rfl ?_
        refine mX_ck (k' := 44) (ls' := [some (.ref a0), some (.int a1), some (.int a2), some (.int v5)]) (st' := [.ref (gR h8 a0 0)]) (h' := h8) rfl ?_
        refine mX_to 2 (k' := 46) (ls' := [some (.ref a0), some (.int a1), some (.int a2), some (.int v5)]) (st' := [.int 0, .ref (gR h8 a0 0), .int 0, .ref (gR h8 a0 0)]) (h' := h8) rfl ?_
        refine mX_ck (k' := 47) (ls' := [some (.ref a0), some (.int a1), some (.int a2), some (.int v5)]) (st' := [.int (gI h8 (gR h8 a0 0) (ix (0 : Int32))), .int 0, .ref (gR h8 a0 0)]) (h' := h8) rfl ?_
        refine mX_to 2 (k' := 49) (ls' := [some (.ref a0), some (.int a1), some (.int a2), some (.int v5)]) (st' := [.int ((gI h8 (gR h8 a0 0) (ix (0 : Int32))) + 1), .int 0, .ref (gR h8 a0 0)]) (h' := h8) rfl ?_
        refine mX_ck (k' := 50) (ls' := [some (.ref a0), some (.int a1), some (.int a2), some (.int v5)]) (st' := []) (h' := (sI h8 (gR h8 a0 0) (ix (0 : Int32)) ((gI h8 (gR h8 a0 0) (ix (0 : Int32))) + 1))) rfl ?_
        refine lt_gen (X := fun h9 : MH => mX (mE mtab d) KX11_person 50 [some (.ref a0), some (.int a1), some (.int a2), some (.int v5)] [] h9) fun h9 => ?_
        refine mX_to 1 (k' := 51) (ls' := [some (.ref a0), some (.int a1), some (.int a2), some (.int v5)]) (st' := [.int v5]) (h' := h9) rfl ?_
        exact mX_reti rfl
theorem D_X9_has (d : Nat) (h : MH) (a0 : Nat) (a1 : Int32) : mE mtab (d + 1) 17 [.ref a0, .int a1] h = ck (kd h a0 = 10) (cI (mE mtab d 11 [.int a1, .int 0, .int ((gI h a0 0) - 1)] h) (fun x2 h1 => ck (mrt 1 x2) (some (.int x2, h1)))) := by
  refine mE_eq (q := (yX9_has, cX9_has, 2, (some .boolean), KX9_has)) (C := KX9_has) (ls := [some (.ref a0), some (.int a1)]) rfl rfl rfl rfl ?_
  refine mX_to 3 (k' := 3) (ls' := [some (.ref a0), some (.int a1)]) (st' := [.ref a0, .int 0, .int a1]) (h' := h) rfl ?_
  refine mX_ck (k' := 4) (ls' := [some (.ref a0), some (.int a1)]) (st' := [.int (gI h a0 0), .int 0, .int a1]) (h' := h) rfl ?_
  refine mX_to 2 (k' := 6) (ls' := [some (.ref a0), some (.int a1)]) (st' := [.int ((gI h a0 0) - 1), .int 0, .int a1]) (h' := h) rfl ?_
  refine mX_cI (o := mE mtab d 11 [.int a1, .int 0, .int ((gI h a0 0) - 1)] h) (k' := 7) (ls' := [some (.ref a0), some (.int a1)]) (st' := []) rfl ?_
  intro x2 h1
  exact mX_retc rfl
theorem D_X9_aims (d : Nat) (h : MH) (a0 : Nat) (a1 : Int32) (a2 : Int32) : mE mtab (d + 1) 18 [.ref a0, .int a1, .int a2] h = ck (kd h a0 = 10) (cI (mE mtab d 17 [.ref a0, .int a1] h) (fun x2 h1 => (if x2 = 0 then some (.int 0, h1) else ck (kd h1 a0 = 10) (ck (kd h1 (gR h1 a0 3) = 20 ∧ ib a1 (ln h1 (gR h1 a0 3))) (lt_ (sI h1 (gR h1 a0 3) (ix a1) a2) fun h3 => some (.int 1, h3)))))) := by
  refine mE_eq (q := (yX9_aims, cX9_aims, 3, (some .boolean), KX9_aims)) (C := KX9_aims) (ls := [some (.ref a0), some (.int a1), some (.int a2)]) rfl rfl rfl rfl ?_
  refine mX_to 2 (k' := 2) (ls' := [some (.ref a0), some (.int a1), some (.int a2)]) (st' := [.int a1, .ref a0]) (h' := h) rfl ?_
  refine mX_ckc (m := mcl (mE mtab d 17 [.ref a0, .int a1] h) 1 3 [some (.ref a0), some (.int a1), some (.int a2)] []) rfl ?_
  refine mk_cI ?_
  intro x2 h1
  refine mX_br (t := 4) (f := 6) (ls' := [some (.ref a0), some (.int a1), some (.int a2)]) (st' := []) (h' := h1) rfl ?_ ?_
  · refine mX_to 1 (k' := 5) (ls' := [some (.ref a0), some (.int a1), some (.int a2)]) (st' := [.int 0]) (h' := h1) rfl ?_
    exact mX_retb (by decide) rfl
  · refine mX_to 1 (k' := 7) (ls' := [some (.ref a0), some (.int a1), some (.int a2)]) (st' := [.ref a0]) (h' := h1) rfl ?_
    refine mX_ck (k' := 8) (ls' := [some (.ref a0), some (.int a1), some (.int a2)]) (st' := [.ref (gR h1 a0 3)]) (h' := h1) rfl ?_
    refine mX_to 2 (k' := 10) (ls' := [some (.ref a0), some (.int a1), some (.int a2)]) (st' := [.int a2, .int a1, .ref (gR h1 a0 3)]) (h' := h1) rfl ?_
    refine mX_ck (k' := 11) (ls' := [some (.ref a0), some (.int a1), some (.int a2)]) (st' := []) (h' := (sI h1 (gR h1 a0 3) (ix a1) a2)) rfl ?_
    refine lt_gen (X := fun h3 : MH => mX (mE mtab d) KX9_aims 11 [some (.ref a0), some (.int a1), some (.int a2)] [] h3) fun h3 => ?_
    refine mX_to 1 (k' := 12) (ls' := [some (.ref a0), some (.int a1), some (.int a2)]) (st' := [.int 1]) (h' := h3) rfl ?_
    exact mX_retb (by decide) rfl
theorem D_X10_goal (d : Nat) (h : MH) (a0 : Nat) (a1 : Int32) (a2 : Int32) : mE mtab (d + 1) 19 [.ref a0, .int a1, .int a2] h = cI (mE mtab d 11 [.int a2, .int (-1), .int 8] h) (fun x2 h1 => (if x2 = 0 then some (.int 0, h1) else ck (kd h1 a0 = 11) (ck (kd h1 (gR h1 a0 0) = 1) (ck (kd h1 (gR h1 (gR h1 a0 0) 0) = 10) (cI (mE mtab d 18 [.ref (gR h1 (gR h1 a0 0) 0), .int a1, .int a2] h1) (fun x4 h3 => ck (mrt 1 x4) (some (.int x4, h3)))))))) := by
  refine mE_eq (q := (yX10_goal, cX10_goal, 3, (some .boolean), KX10_goal)) (C := KX10_goal) (ls := [some (.ref a0), some (.int a1), some (.int a2)]) rfl rfl rfl rfl ?_
  refine mX_to 3 (k' := 3) (ls' := [some (.ref a0), some (.int a1), some (.int a2)]) (st' := [.int 8, .int (-1), .int a2]) (h' := h) rfl ?_
  refine mX_cI (o := mE mtab d 11 [.int a2, .int (-1), .int 8] h) (k' := 4) (ls' := [some (.ref a0), some (.int a1), some (.int a2)]) (st' := []) rfl ?_
  intro x2 h1
  refine mX_br (t := 5) (f := 7) (ls' := [some (.ref a0), some (.int a1), some (.int a2)]) (st' := []) (h' := h1) rfl ?_ ?_
  · refine mX_to 1 (k' := 6) (ls' := [some (.ref a0), some (.int a1), some (.int a2)]) (st' := [.int 0]) (h' := h1) rfl ?_
    exact mX_retb (by decide) rfl
  · refine mX_to 1 (k' := 8) (ls' := [some (.ref a0), some (.int a1), some (.int a2)]) (st' := [.ref a0]) (h' := h1) rfl ?_
    refine mX_ck (k' := 9) (ls' := [some (.ref a0), some (.int a1), some (.int a2)]) (st' := [.ref (gR h1 a0 0)]) (h' := h1) rfl ?_
    refine mX_ck (k' := 10) (ls' := [some (.ref a0), some (.int a1), some (.int a2)]) (st' := [.ref (gR h1 (gR h1 a0 0) 0)]) (h' := h1) rfl ?_
    refine mX_to 2 (k' := 12) (ls' := [some (.ref a0), some (.int a1), some (.int a2)]) (st' := [.int a2, .int a1, .ref (gR h1 (gR h1 a0 0) 0)]) (h' := h1) rfl ?_
    refine mX_ckc (m := mcl (mE mtab d 18 [.ref (gR h1 (gR h1 a0 0) 0), .int a1, .int a2] h1) 1 13 [some (.ref a0), some (.int a1), some (.int a2)] []) rfl ?_
    refine mk_cI ?_
    intro x4 h3
    exact mX_retc rfl
theorem D_X11_isPerson (d : Nat) (h : MH) (a0 : Nat) (a1 : Int32) : mE mtab (d + 1) 20 [.ref a0, .int a1] h = ck (kd h a0 = 12) (ck ((kd h (gR h a0 0) = 20 ∨ kd h (gR h a0 0) = 24) ∧ ib (0 : Int32) (ln h (gR h a0 0))) (cI (mE mtab d 14 [.int a1, .int 0, .int ((gI h (gR h a0 0) (ix (0 : Int32))) - 1)] h) (fun x2 h1 => ck (mrt 1 x2) (some (.int x2, h1))))) := by
  refine mE_eq (q := (yX11_isPerson, cX11_isPerson, 2, (some .boolean), KX11_isPerson)) (C := KX11_isPerson) (ls := [some (.ref a0), some (.int a1)]) rfl rfl rfl rfl ?_
  refine mX_to 3 (k' := 3) (ls' := [some (.ref a0), some (.int a1)]) (st' := [.ref a0, .int 0, .int a1]) (h' := h) rfl ?_
  refine mX_ck (k' := 4) (ls' := [some (.ref a0), some (.int a1)]) (st' := [.ref (gR h a0 0), .int 0, .int a1]) (h' := h) rfl ?_
  refine mX_to 1 (k' := 5) (ls' := [some (.ref a0), some (.int a1)]) (st' := [.int 0, .ref (gR h a0 0), .int 0, .int a1]) (h' := h) rfl ?_
  refine mX_ck (k' := 6) (ls' := [some (.ref a0), some (.int a1)]) (st' := [.int (gI h (gR h a0 0) (ix (0 : Int32))), .int 0, .int a1]) (h' := h) rfl ?_
  refine mX_to 2 (k' := 8) (ls' := [some (.ref a0), some (.int a1)]) (st' := [.int ((gI h (gR h a0 0) (ix (0 : Int32))) - 1), .int 0, .int a1]) (h' := h) rfl ?_
  refine mX_cI (o := mE mtab d 14 [.int a1, .int 0, .int ((gI h (gR h a0 0) (ix (0 : Int32))) - 1)] h) (k' := 9) (ls' := [some (.ref a0), some (.int a1)]) (st' := []) rfl ?_
  intro x2 h1
  exact mX_retc rfl
theorem D_X11_goal_12 (d : Nat) (h : MH) (l0 : Nat) (l1 : Int32) (l2 : Int32) : mX (mE mtab d) KX11_goal 12 [some (.ref l0), some (.int l1), some (.int l2)] [] h = ck (kd h l0 = 12) (ck (kd h (gR h l0 0) = 20 ∧ ib (30 + l1) (ln h (gR h l0 0))) (lt_ (sI h (gR h l0 0) (ix (30 + l1)) l2) fun h5 => some (.int 1, h5))) := by
  refine mX_to 1 (k' := 13) (ls' := [some (.ref l0), some (.int l1), some (.int l2)]) (st' := [.ref l0]) (h' := h) rfl ?_
  refine mX_ck (k' := 14) (ls' := [some (.ref l0), some (.int l1), some (.int l2)]) (st' := [.ref (gR h l0 0)]) (h' := h) rfl ?_
  refine mX_to 4 (k' := 18) (ls' := [some (.ref l0), some (.int l1), some (.int l2)]) (st' := [.int l2, .int (30 + l1), .ref (gR h l0 0)]) (h' := h) rfl ?_
  refine mX_ck (k' := 19) (ls' := [some (.ref l0), some (.int l1), some (.int l2)]) (st' := []) (h' := (sI h (gR h l0 0) (ix (30 + l1)) l2)) rfl ?_
  refine lt_gen (X := fun h5 : MH => mX (mE mtab d) KX11_goal 19 [some (.ref l0), some (.int l1), some (.int l2)] [] h5) fun h5 => ?_
  refine mX_to 1 (k' := 20) (ls' := [some (.ref l0), some (.int l1), some (.int l2)]) (st' := [.int 1]) (h' := h5) rfl ?_
  exact mX_retb (by decide) rfl
theorem D_X11_goal (d : Nat) (h : MH) (a0 : Nat) (a1 : Int32) (a2 : Int32) : mE mtab (d + 1) 21 [.ref a0, .int a1, .int a2] h = ck (kd h a0 = 12) (cI (mE mtab d 20 [.ref a0, .int a1] h) (fun x2 h1 => (if x2 = 0 then some (.int 0, h1) else (if a2 = (-1) then mX (mE mtab d) KX11_goal 12 [some (.ref a0), some (.int a1), some (.int a2)] [] h1 else cI (mE mtab d 15 [.int a2] h1) (fun x4 h3 => (if x4 = 0 then some (.int 0, h3) else mX (mE mtab d) KX11_goal 12 [some (.ref a0), some (.int a1), some (.int a2)] [] h3)))))) := by
  refine mE_eq (q := (yX11_goal, cX11_goal, 3, (some .boolean), KX11_goal)) (C := KX11_goal) (ls := [some (.ref a0), some (.int a1), some (.int a2)]) rfl rfl rfl rfl ?_
  refine mX_to 2 (k' := 2) (ls' := [some (.ref a0), some (.int a1), some (.int a2)]) (st' := [.int a1, .ref a0]) (h' := h) rfl ?_
  refine mX_ckc (m := mcl (mE mtab d 20 [.ref a0, .int a1] h) 1 3 [some (.ref a0), some (.int a1), some (.int a2)] []) rfl ?_
  refine mk_cI ?_
  intro x2 h1
  refine mX_br (t := 10) (f := 4) (ls' := [some (.ref a0), some (.int a1), some (.int a2)]) (st' := []) (h' := h1) rfl ?_ ?_
  · refine mX_to 1 (k' := 11) (ls' := [some (.ref a0), some (.int a1), some (.int a2)]) (st' := [.int 0]) (h' := h1) rfl ?_
    exact mX_retb (by decide) rfl
  · refine mX_to 2 (k' := 6) (ls' := [some (.ref a0), some (.int a1), some (.int a2)]) (st' := [.int (-1), .int a2]) (h' := h1) rfl ?_
    refine mX_br (t := 12) (f := 7) (ls' := [some (.ref a0), some (.int a1), some (.int a2)]) (st' := []) (h' := h1) rfl ?_ ?_
    · rfl
    · refine mX_to 1 (k' := 8) (ls' := [some (.ref a0), some (.int a1), some (.int a2)]) (st' := [.int a2]) (h' := h1) rfl ?_
      refine mX_cI (o := mE mtab d 15 [.int a2] h1) (k' := 9) (ls' := [some (.ref a0), some (.int a1), some (.int a2)]) (st' := []) rfl ?_
      intro x4 h3
      refine mX_br (t := 10) (f := 12) (ls' := [some (.ref a0), some (.int a1), some (.int a2)]) (st' := []) (h' := h3) rfl ?_ ?_
      · refine mX_to 1 (k' := 11) (ls' := [some (.ref a0), some (.int a1), some (.int a2)]) (st' := [.int 0]) (h' := h3) rfl ?_
        exact mX_retb (by decide) rfl
      · rfl
theorem D_X2_hire (d : Nat) (h : MH) (a0 : Nat) (a1 : Int32) (a2 : Int32) : mE mtab (d + 1) 22 [.ref a0, .int a1, .int a2] h = ck (kd h a0 = 3) ((if (gI h a0 3) < 4 then ck (kd h a0 = 3) (ck (kd h a0 = 3) (ck (kd h (gR h a0 0) = 20 ∧ ib (gI h a0 3) (ln h (gR h a0 0))) (lt_ (sI h (gR h a0 0) (ix (gI h a0 3)) a1) fun h1 => ck (kd h1 a0 = 3) (ck (kd h1 a0 = 3) (ck (kd h1 (gR h1 a0 1) = 20 ∧ ib (gI h1 a0 3) (ln h1 (gR h1 a0 1))) (lt_ (sI h1 (gR h1 a0 1) (ix (gI h1 a0 3)) a2) fun h2 => ck (kd h2 a0 = 3) (ck (kd h2 a0 = 3) (lt_ (sI h2 a0 3 ((gI h2 a0 3) + 1)) fun h3 => ck (kd h3 a0 = 3) (some (.int ((gI h3 a0 3) - 1), h3)))))))))) else some (.int (-1), h))) := by
  refine mE_eq (q := (yX2_hire, cX2_hire, 3, (some .int), KX2_hire)) (C := KX2_hire) (ls := [some (.ref a0), some (.int a1), some (.int a2)]) rfl rfl rfl rfl ?_
  refine mX_to 1 (k' := 1) (ls' := [some (.ref a0), some (.int a1), some (.int a2)]) (st' := [.ref a0]) (h' := h) rfl ?_
  refine mX_ck (k' := 2) (ls' := [some (.ref a0), some (.int a1), some (.int a2)]) (st' := [.int (gI h a0 3)]) (h' := h) rfl ?_
  refine mX_to 1 (k' := 3) (ls' := [some (.ref a0), some (.int a1), some (.int a2)]) (st' := [.int 4, .int (gI h a0 3)]) (h' := h) rfl ?_
  refine mX_br (t := 6) (f := 4) (ls' := [some (.ref a0), some (.int a1), some (.int a2)]) (st' := []) (h' := h) rfl ?_ ?_
  · refine mX_to 1 (k' := 7) (ls' := [some (.ref a0), some (.int a1), some (.int a2)]) (st' := [.ref a0]) (h' := h) rfl ?_
    refine mX_ck (k' := 8) (ls' := [some (.ref a0), some (.int a1), some (.int a2)]) (st' := [.ref (gR h a0 0)]) (h' := h) rfl ?_
    refine mX_to 1 (k' := 9) (ls' := [some (.ref a0), some (.int a1), some (.int a2)]) (st' := [.ref a0, .ref (gR h a0 0)]) (h' := h) rfl ?_
    refine mX_ck (k' := 10) (ls' := [some (.ref a0), some (.int a1), some (.int a2)]) (st' := [.int (gI h a0 3), .ref (gR h a0 0)]) (h' := h) rfl ?_
    refine mX_to 1 (k' := 11) (ls' := [some (.ref a0), some (.int a1), some (.int a2)]) (st' := [.int a1, .int (gI h a0 3), .ref (gR h a0 0)]) (h' := h) rfl ?_
    refine mX_ck (k' := 12) (ls' := [some (.ref a0), some (.int a1), some (.int a2)]) (st' := []) (h' := (sI h (gR h a0 0) (ix (gI h a0 3)) a1)) rfl ?_
    refine lt_gen (X := fun h1 : MH => mX (mE mtab d) KX2_hire 12 [some (.ref a0), some (.int a1), some (.int a2)] [] h1) fun h1 => ?_
    refine mX_to 1 (k' := 13) (ls' := [some (.ref a0), some (.int a1), some (.int a2)]) (st' := [.ref a0]) (h' := h1) rfl ?_
    refine mX_ck (k' := 14) (ls' := [some (.ref a0), some (.int a1), some (.int a2)]) (st' := [.ref (gR h1 a0 1)]) (h' := h1) rfl ?_
    refine mX_to 1 (k' := 15) (ls' := [some (.ref a0), some (.int a1), some (.int a2)]) (st' := [.ref a0, .ref (gR h1 a0 1)]) (h' := h1) rfl ?_
    refine mX_ck (k' := 16) (ls' := [some (.ref a0), some (.int a1), some (.int a2)]) (st' := [.int (gI h1 a0 3), .ref (gR h1 a0 1)]) (h' := h1) rfl ?_
    refine mX_to 1 (k' := 17) (ls' := [some (.ref a0), some (.int a1), some (.int a2)]) (st' := [.int a2, .int (gI h1 a0 3), .ref (gR h1 a0 1)]) (h' := h1) rfl ?_
    refine mX_ck (k' := 18) (ls' := [some (.ref a0), some (.int a1), some (.int a2)]) (st' := []) (h' := (sI h1 (gR h1 a0 1) (ix (gI h1 a0 3)) a2)) rfl ?_
    refine lt_gen (X := fun h2 : MH => mX (mE mtab d) KX2_hire 18 [some (.ref a0), some (.int a1), some (.int a2)] [] h2) fun h2 => ?_
    refine mX_to 2 (k' := 20) (ls' := [some (.ref a0), some (.int a1), some (.int a2)]) (st' := [.ref a0, .ref a0]) (h' := h2) rfl ?_
    refine mX_ck (k' := 21) (ls' := [some (.ref a0), some (.int a1), some (.int a2)]) (st' := [.int (gI h2 a0 3), .ref a0]) (h' := h2) rfl ?_
    refine mX_to 2 (k' := 23) (ls' := [some (.ref a0), some (.int a1), some (.int a2)]) (st' := [.int ((gI h2 a0 3) + 1), .ref a0]) (h' := h2) rfl ?_
    refine mX_ck (k' := 24) (ls' := [some (.ref a0), some (.int a1), some (.int a2)]) (st' := []) (h' := (sI h2 a0 3 ((gI h2 a0 3) + 1))) rfl ?_
    refine lt_gen (X := fun h3 : MH => mX (mE mtab d) KX2_hire 24 [some (.ref a0), some (.int a1), some (.int a2)] [] h3) fun h3 => ?_
    refine mX_to 1 (k' := 25) (ls' := [some (.ref a0), some (.int a1), some (.int a2)]) (st' := [.ref a0]) (h' := h3) rfl ?_
    refine mX_ck (k' := 26) (ls' := [some (.ref a0), some (.int a1), some (.int a2)]) (st' := [.int (gI h3 a0 3)]) (h' := h3) rfl ?_
    refine mX_to 2 (k' := 28) (ls' := [some (.ref a0), some (.int a1), some (.int a2)]) (st' := [.int ((gI h3 a0 3) - 1)]) (h' := h3) rfl ?_
    exact mX_reti rfl
  · refine mX_to 1 (k' := 5) (ls' := [some (.ref a0), some (.int a1), some (.int a2)]) (st' := [.int (-1)]) (h' := h) rfl ?_
    exact mX_reti rfl
theorem D_X10_hand (d : Nat) (h : MH) (a0 : Nat) (a1 : Int32) (a2 : Int32) : mE mtab (d + 1) 23 [.ref a0, .int a1, .int a2] h = cI (mE mtab d 11 [.int a1, .int 1, .int 9] h) (fun x2 h1 => (if x2 = 0 then some (.int (-1), h1) else cI (mE mtab d 11 [.int a2, .int 0, .int 99] h1) (fun x4 h3 => (if x4 = 0 then some (.int (-1), h3) else ck (kd h3 a0 = 11) (ck (kd h3 (gR h3 a0 0) = 1) (ck (kd h3 (gR h3 (gR h3 a0 0) 2) = 3) (cI (mE mtab d 22 [.ref (gR h3 (gR h3 a0 0) 2), .int a1, .int a2] h3) (fun x6 h5 => some (.int x6, h5))))))))) := by
  refine mE_eq (q := (yX10_hand, cX10_hand, 3, (some .int), KX10_hand)) (C := KX10_hand) (ls := [some (.ref a0), some (.int a1), some (.int a2)]) rfl rfl rfl rfl ?_
  refine mX_to 3 (k' := 3) (ls' := [some (.ref a0), some (.int a1), some (.int a2)]) (st' := [.int 9, .int 1, .int a1]) (h' := h) rfl ?_
  refine mX_cI (o := mE mtab d 11 [.int a1, .int 1, .int 9] h) (k' := 4) (ls' := [some (.ref a0), some (.int a1), some (.int a2)]) (st' := []) rfl ?_
  intro x2 h1
  refine mX_br (t := 10) (f := 5) (ls' := [some (.ref a0), some (.int a1), some (.int a2)]) (st' := []) (h' := h1) rfl ?_ ?_
  · refine mX_to 1 (k' := 11) (ls' := [some (.ref a0), some (.int a1), some (.int a2)]) (st' := [.int (-1)]) (h' := h1) rfl ?_
    exact mX_reti rfl
  · refine mX_to 3 (k' := 8) (ls' := [some (.ref a0), some (.int a1), some (.int a2)]) (st' := [.int 99, .int 0, .int a2]) (h' := h1) rfl ?_
    refine mX_cI (o := mE mtab d 11 [.int a2, .int 0, .int 99] h1) (k' := 9) (ls' := [some (.ref a0), some (.int a1), some (.int a2)]) (st' := []) rfl ?_
    intro x4 h3
    refine mX_br (t := 10) (f := 12) (ls' := [some (.ref a0), some (.int a1), some (.int a2)]) (st' := []) (h' := h3) rfl ?_ ?_
    · refine mX_to 1 (k' := 11) (ls' := [some (.ref a0), some (.int a1), some (.int a2)]) (st' := [.int (-1)]) (h' := h3) rfl ?_
      exact mX_reti rfl
    · refine mX_to 1 (k' := 13) (ls' := [some (.ref a0), some (.int a1), some (.int a2)]) (st' := [.ref a0]) (h' := h3) rfl ?_
      refine mX_ck (k' := 14) (ls' := [some (.ref a0), some (.int a1), some (.int a2)]) (st' := [.ref (gR h3 a0 0)]) (h' := h3) rfl ?_
      refine mX_ck (k' := 15) (ls' := [some (.ref a0), some (.int a1), some (.int a2)]) (st' := [.ref (gR h3 (gR h3 a0 0) 2)]) (h' := h3) rfl ?_
      refine mX_to 2 (k' := 17) (ls' := [some (.ref a0), some (.int a1), some (.int a2)]) (st' := [.int a2, .int a1, .ref (gR h3 (gR h3 a0 0) 2)]) (h' := h3) rfl ?_
      refine mX_ckc (m := mcl (mE mtab d 22 [.ref (gR h3 (gR h3 a0 0) 2), .int a1, .int a2] h3) 1 18 [some (.ref a0), some (.int a1), some (.int a2)] []) rfl ?_
      refine mk_cI ?_
      intro x6 h5
      exact mX_reti rfl
theorem D_X11_hand (d : Nat) (h : MH) (a0 : Nat) (a1 : Int32) (a2 : Int32) : mE mtab (d + 1) 24 [.ref a0, .int a1, .int a2] h = cI (mE mtab d 14 [.int a1, .int 1, .int 9] h) (fun x2 h1 => (if x2 = 0 then some (.int (-1), h1) else cI (mE mtab d 14 [.int a2, .int 0, .int 99] h1) (fun x4 h3 => (if x4 = 0 then some (.int (-1), h3) else ck (kd h3 a0 = 12) (ck ((kd h3 (gR h3 a0 0) = 20 ∨ kd h3 (gR h3 a0 0) = 24) ∧ ib (1 : Int32) (ln h3 (gR h3 a0 0))) ((if (gI h3 (gR h3 a0 0) (ix (1 : Int32))) = 4 then some (.int (-1), h3) else ck (kd h3 a0 = 12) (ck (kd h3 a0 = 12) (ck ((kd h3 (gR h3 a0 0) = 20 ∨ kd h3 (gR h3 a0 0) = 24) ∧ ib (1 : Int32) (ln h3 (gR h3 a0 0))) (ck (kd h3 (gR h3 a0 0) = 20 ∧ ib (34 + (2 * (gI h3 (gR h3 a0 0) (ix (1 : Int32))))) (ln h3 (gR h3 a0 0))) (lt_ (sI h3 (gR h3 a0 0) (ix (34 + (2 * (gI h3 (gR h3 a0 0) (ix (1 : Int32)))))) a1) fun h5 => ck (kd h5 a0 = 12) (ck (kd h5 a0 = 12) (ck ((kd h5 (gR h5 a0 0) = 20 ∨ kd h5 (gR h5 a0 0) = 24) ∧ ib (1 : Int32) (ln h5 (gR h5 a0 0))) (ck (kd h5 (gR h5 a0 0) = 20 ∧ ib ((34 + (2 * (gI h5 (gR h5 a0 0) (ix (1 : Int32))))) + 1) (ln h5 (gR h5 a0 0))) (lt_ (sI h5 (gR h5 a0 0) (ix ((34 + (2 * (gI h5 (gR h5 a0 0) (ix (1 : Int32))))) + 1)) a2) fun h6 => ck (kd h6 a0 = 12) (ck ((kd h6 (gR h6 a0 0) = 20 ∨ kd h6 (gR h6 a0 0) = 24) ∧ ib (1 : Int32) (ln h6 (gR h6 a0 0))) (ck (kd h6 (gR h6 a0 0) = 20 ∧ ib (1 : Int32) (ln h6 (gR h6 a0 0))) (lt_ (sI h6 (gR h6 a0 0) (ix (1 : Int32)) ((gI h6 (gR h6 a0 0) (ix (1 : Int32))) + 1)) fun h7 => ck (kd h7 a0 = 12) (ck ((kd h7 (gR h7 a0 0) = 20 ∨ kd h7 (gR h7 a0 0) = 24) ∧ ib (1 : Int32) (ln h7 (gR h7 a0 0))) (some (.int ((gI h7 (gR h7 a0 0) (ix (1 : Int32))) - 1), h7))))))))))))))))))))) := by
  refine mE_eq (q := (yX11_hand, cX11_hand, 3, (some .int), KX11_hand)) (C := KX11_hand) (ls := [some (.ref a0), some (.int a1), some (.int a2)]) rfl rfl rfl rfl ?_
  refine mX_to 3 (k' := 3) (ls' := [some (.ref a0), some (.int a1), some (.int a2)]) (st' := [.int 9, .int 1, .int a1]) (h' := h) rfl ?_
  refine mX_cI (o := mE mtab d 14 [.int a1, .int 1, .int 9] h) (k' := 4) (ls' := [some (.ref a0), some (.int a1), some (.int a2)]) (st' := []) rfl ?_
  intro x2 h1
  refine mX_br (t := 16) (f := 5) (ls' := [some (.ref a0), some (.int a1), some (.int a2)]) (st' := []) (h' := h1) rfl ?_ ?_
  · refine mX_to 1 (k' := 17) (ls' := [some (.ref a0), some (.int a1), some (.int a2)]) (st' := [.int (-1)]) (h' := h1) rfl ?_
    exact mX_reti rfl
  · refine mX_to 3 (k' := 8) (ls' := [some (.ref a0), some (.int a1), some (.int a2)]) (st' := [.int 99, .int 0, .int a2]) (h' := h1) rfl ?_
    refine mX_cI (o := mE mtab d 14 [.int a2, .int 0, .int 99] h1) (k' := 9) (ls' := [some (.ref a0), some (.int a1), some (.int a2)]) (st' := []) rfl ?_
    intro x4 h3
    refine mX_br (t := 16) (f := 10) (ls' := [some (.ref a0), some (.int a1), some (.int a2)]) (st' := []) (h' := h3) rfl ?_ ?_
    · refine mX_to 1 (k' := 17) (ls' := [some (.ref a0), some (.int a1), some (.int a2)]) (st' := [.int (-1)]) (h' := h3) rfl ?_
      exact mX_reti rfl
    · refine mX_to 1 (k' := 11) (ls' := [some (.ref a0), some (.int a1), some (.int a2)]) (st' := [.ref a0]) (h' := h3) rfl ?_
      refine mX_ck (k' := 12) (ls' := [some (.ref a0), some (.int a1), some (.int a2)]) (st' := [.ref (gR h3 a0 0)]) (h' := h3) rfl ?_
      refine mX_to 1 (k' := 13) (ls' := [some (.ref a0), some (.int a1), some (.int a2)]) (st' := [.int 1, .ref (gR h3 a0 0)]) (h' := h3) rfl ?_
      refine mX_ck (k' := 14) (ls' := [some (.ref a0), some (.int a1), some (.int a2)]) (st' := [.int (gI h3 (gR h3 a0 0) (ix (1 : Int32)))]) (h' := h3) rfl ?_
      refine mX_to 1 (k' := 15) (ls' := [some (.ref a0), some (.int a1), some (.int a2)]) (st' := [.int 4, .int (gI h3 (gR h3 a0 0) (ix (1 : Int32)))]) (h' := h3) rfl ?_
      refine mX_br (t := 16) (f := 18) (ls' := [some (.ref a0), some (.int a1), some (.int a2)]) (st' := []) (h' := h3) rfl ?_ ?_
      · refine mX_to 1 (k' := 17) (ls' := [some (.ref a0), some (.int a1), some (.int a2)]) (st' := [.int (-1)]) (h' := h3) rfl ?_
        exact mX_reti rfl
      · refine mX_to 1 (k' := 19) (ls' := [some (.ref a0), some (.int a1), some (.int a2)]) (st' := [.ref a0]) (h' := h3) rfl ?_
        refine mX_ck (k' := 20) (ls' := [some (.ref a0), some (.int a1), some (.int a2)]) (st' := [.ref (gR h3 a0 0)]) (h' := h3) rfl ?_
        refine mX_to 3 (k' := 23) (ls' := [some (.ref a0), some (.int a1), some (.int a2)]) (st' := [.ref a0, .int 2, .int 34, .ref (gR h3 a0 0)]) (h' := h3) rfl ?_
        refine mX_ck (k' := 24) (ls' := [some (.ref a0), some (.int a1), some (.int a2)]) (st' := [.ref (gR h3 a0 0), .int 2, .int 34, .ref (gR h3 a0 0)]) (h' := h3) rfl ?_
        refine mX_to 1 (k' := 25) (ls' := [some (.ref a0), some (.int a1), some (.int a2)]) (st' := [.int 1, .ref (gR h3 a0 0), .int 2, .int 34, .ref (gR h3 a0 0)]) (h' := h3) rfl ?_
        refine mX_ck (k' := 26) (ls' := [some (.ref a0), some (.int a1), some (.int a2)]) (st' := [.int (gI h3 (gR h3 a0 0) (ix (1 : Int32))), .int 2, .int 34, .ref (gR h3 a0 0)]) (h' := h3) rfl ?_
        refine mX_to 3 (k' := 29) (ls' := [some (.ref a0), some (.int a1), some (.int a2)]) (st' := [.int a1, .int (34 + (2 * (gI h3 (gR h3 a0 0) (ix (1 : Int32))))), .ref (gR h3 a0 0)]) (h' := h3) rfl ?_
        refine mX_ck (k' := 30) (ls' := [some (.ref a0), some (.int a1), some (.int a2)]) (st' := []) (h' := (sI h3 (gR h3 a0 0) (ix (34 + (2 * (gI h3 (gR h3 a0 0) (ix (1 : Int32)))))) a1)) rfl ?_
        refine lt_gen (X := fun h5 : MH => mX (mE mtab d) KX11_hand 30 [some (.ref a0), some (.int a1), some (.int a2)] [] h5) fun h5 => ?_
        refine mX_to 1 (k' := 31) (ls' := [some (.ref a0), some (.int a1), some (.int a2)]) (st' := [.ref a0]) (h' := h5) rfl ?_
        refine mX_ck (k' := 32) (ls' := [some (.ref a0), some (.int a1), some (.int a2)]) (st' := [.ref (gR h5 a0 0)]) (h' := h5) rfl ?_
        refine mX_to 3 (k' := 35) (ls' := [some (.ref a0), some (.int a1), some (.int a2)]) (st' := [.ref a0, .int 2, .int 34, .ref (gR h5 a0 0)]) (h' := h5) rfl ?_
        refine mX_ck (k' := 36) (ls' := [some (.ref a0), some (.int a1), some (.int a2)]) (st' := [.ref (gR h5 a0 0), .int 2, .int 34, .ref (gR h5 a0 0)]) (h' := h5) rfl ?_
        refine mX_to 1 (k' := 37) (ls' := [some (.ref a0), some (.int a1), some (.int a2)]) (st' := [.int 1, .ref (gR h5 a0 0), .int 2, .int 34, .ref (gR h5 a0 0)]) (h' := h5) rfl ?_
        refine mX_ck (k' := 38) (ls' := [some (.ref a0), some (.int a1), some (.int a2)]) (st' := [.int (gI h5 (gR h5 a0 0) (ix (1 : Int32))), .int 2, .int 34, .ref (gR h5 a0 0)]) (h' := h5) rfl ?_
        refine mX_to 5 (k' := 43) (ls' := [some (.ref a0), some (.int a1), some (.int a2)]) (st' := [.int a2, .int ((34 + (2 * (gI h5 (gR h5 a0 0) (ix (1 : Int32))))) + 1), .ref (gR h5 a0 0)]) (h' := h5) rfl ?_
        refine mX_ck (k' := 44) (ls' := [some (.ref a0), some (.int a1), some (.int a2)]) (st' := []) (h' := (sI h5 (gR h5 a0 0) (ix ((34 + (2 * (gI h5 (gR h5 a0 0) (ix (1 : Int32))))) + 1)) a2)) rfl ?_
        refine lt_gen (X := fun h6 : MH => mX (mE mtab d) KX11_hand 44 [some (.ref a0), some (.int a1), some (.int a2)] [] h6) fun h6 => ?_
        refine mX_to 1 (k' := 45) (ls' := [some (.ref a0), some (.int a1), some (.int a2)]) (st' := [.ref a0]) (h' := h6) rfl ?_
        refine mX_ck (k' := 46) (ls' := [some (.ref a0), some (.int a1), some (.int a2)]) (st' := [.ref (gR h6 a0 0)]) (h' := h6) rfl ?_
        refine mX_to 2 (k' := 48) (ls' := [some (.ref a0), some (.int a1), some (.int a2)]) (st' := [.int 1, .ref (gR h6 a0 0), .int 1, .ref (gR h6 a0 0)]) (h' := h6) rfl ?_
        refine mX_ck (k' := 49) (ls' := [some (.ref a0), some (.int a1), some (.int a2)]) (st' := [.int (gI h6 (gR h6 a0 0) (ix (1 : Int32))), .int 1, .ref (gR h6 a0 0)]) (h' := h6) rfl ?_
        refine mX_to 2 (k' := 51) (ls' := [some (.ref a0), some (.int a1), some (.int a2)]) (st' := [.int ((gI h6 (gR h6 a0 0) (ix (1 : Int32))) + 1), .int 1, .ref (gR h6 a0 0)]) (h' := h6) rfl ?_
        refine mX_ck (k' := 52) (ls' := [some (.ref a0), some (.int a1), some (.int a2)]) (st' := []) (h' := (sI h6 (gR h6 a0 0) (ix (1 : Int32)) ((gI h6 (gR h6 a0 0) (ix (1 : Int32))) + 1))) rfl ?_
        refine lt_gen (X := fun h7 : MH => mX (mE mtab d) KX11_hand 52 [some (.ref a0), some (.int a1), some (.int a2)] [] h7) fun h7 => ?_
        refine mX_to 1 (k' := 53) (ls' := [some (.ref a0), some (.int a1), some (.int a2)]) (st' := [.ref a0]) (h' := h7) rfl ?_
        refine mX_ck (k' := 54) (ls' := [some (.ref a0), some (.int a1), some (.int a2)]) (st' := [.ref (gR h7 a0 0)]) (h' := h7) rfl ?_
        refine mX_to 1 (k' := 55) (ls' := [some (.ref a0), some (.int a1), some (.int a2)]) (st' := [.int 1, .ref (gR h7 a0 0)]) (h' := h7) rfl ?_
        refine mX_ck (k' := 56) (ls' := [some (.ref a0), some (.int a1), some (.int a2)]) (st' := [.int (gI h7 (gR h7 a0 0) (ix (1 : Int32)))]) (h' := h7) rfl ?_
        refine mX_to 2 (k' := 58) (ls' := [some (.ref a0), some (.int a1), some (.int a2)]) (st' := [.int ((gI h7 (gR h7 a0 0) (ix (1 : Int32))) - 1)]) (h' := h7) rfl ?_
        exact mX_reti rfl
theorem D_X7_append_2 (d : Nat) (h : MH) (l0 : Nat) (l1 : Int32) (l2 : Int32) : mX (mE mtab d) KX7_append 2 [some (.ref l0), some (.int l1), some (.int l2)] [] h = (if l2 < 0 then some (.int 0, h) else ck (kd h l0 = 8) ((if (gI h l0 1) < 300 then ck (kd h l0 = 8) (ck (kd h l0 = 8) (ck (kd h (gR h l0 0) = 20 ∧ ib (gI h l0 1) (ln h (gR h l0 0))) (lt_ (sI h (gR h l0 0) (ix (gI h l0 1)) ((l1 >>> (l2 &&& 31)) &&& 255)) fun h1 => ck (kd h1 l0 = 8) (ck (kd h1 l0 = 8) (lt_ (sI h1 l0 1 ((gI h1 l0 1) + 1)) fun h2 => mX (mE mtab d) KX7_append 2 [some (.ref l0), some (.int l1), some (.int (l2 + (-8)))] [] h2))))) else some (.int 0, h)))) := by
  refine mX_to 1 (k' := 3) (ls' := [some (.ref l0), some (.int l1), some (.int l2)]) (st' := [.int l2]) (h' := h) rfl ?_
  refine mX_br (t := 26) (f := 4) (ls' := [some (.ref l0), some (.int l1), some (.int l2)]) (st' := []) (h' := h) rfl ?_ ?_
  · exact mX_ret rfl
  · refine mX_to 1 (k' := 5) (ls' := [some (.ref l0), some (.int l1), some (.int l2)]) (st' := [.ref l0]) (h' := h) rfl ?_
    refine mX_ck (k' := 6) (ls' := [some (.ref l0), some (.int l1), some (.int l2)]) (st' := [.int (gI h l0 1)]) (h' := h) rfl ?_
    refine mX_to 1 (k' := 7) (ls' := [some (.ref l0), some (.int l1), some (.int l2)]) (st' := [.int 300, .int (gI h l0 1)]) (h' := h) rfl ?_
    refine mX_br (t := 8) (f := 26) (ls' := [some (.ref l0), some (.int l1), some (.int l2)]) (st' := []) (h' := h) rfl ?_ ?_
    · refine mX_to 1 (k' := 9) (ls' := [some (.ref l0), some (.int l1), some (.int l2)]) (st' := [.ref l0]) (h' := h) rfl ?_
      refine mX_ck (k' := 10) (ls' := [some (.ref l0), some (.int l1), some (.int l2)]) (st' := [.ref (gR h l0 0)]) (h' := h) rfl ?_
      refine mX_to 1 (k' := 11) (ls' := [some (.ref l0), some (.int l1), some (.int l2)]) (st' := [.ref l0, .ref (gR h l0 0)]) (h' := h) rfl ?_
      refine mX_ck (k' := 12) (ls' := [some (.ref l0), some (.int l1), some (.int l2)]) (st' := [.int (gI h l0 1), .ref (gR h l0 0)]) (h' := h) rfl ?_
      refine mX_to 5 (k' := 17) (ls' := [some (.ref l0), some (.int l1), some (.int l2)]) (st' := [.int ((l1 >>> (l2 &&& 31)) &&& 255), .int (gI h l0 1), .ref (gR h l0 0)]) (h' := h) rfl ?_
      refine mX_ck (k' := 18) (ls' := [some (.ref l0), some (.int l1), some (.int l2)]) (st' := []) (h' := (sI h (gR h l0 0) (ix (gI h l0 1)) ((l1 >>> (l2 &&& 31)) &&& 255))) rfl ?_
      refine lt_gen (X := fun h1 : MH => mX (mE mtab d) KX7_append 18 [some (.ref l0), some (.int l1), some (.int l2)] [] h1) fun h1 => ?_
      refine mX_to 2 (k' := 20) (ls' := [some (.ref l0), some (.int l1), some (.int l2)]) (st' := [.ref l0, .ref l0]) (h' := h1) rfl ?_
      refine mX_ck (k' := 21) (ls' := [some (.ref l0), some (.int l1), some (.int l2)]) (st' := [.int (gI h1 l0 1), .ref l0]) (h' := h1) rfl ?_
      refine mX_to 2 (k' := 23) (ls' := [some (.ref l0), some (.int l1), some (.int l2)]) (st' := [.int ((gI h1 l0 1) + 1), .ref l0]) (h' := h1) rfl ?_
      refine mX_ck (k' := 24) (ls' := [some (.ref l0), some (.int l1), some (.int l2)]) (st' := []) (h' := (sI h1 l0 1 ((gI h1 l0 1) + 1))) rfl ?_
      refine lt_gen (X := fun h2 : MH => mX (mE mtab d) KX7_append 24 [some (.ref l0), some (.int l1), some (.int l2)] [] h2) fun h2 => ?_
      refine mX_to 2 (k' := 2) (ls' := [some (.ref l0), some (.int l1), some (.int (l2 + (-8)))]) (st' := []) (h' := h2) rfl ?_
      rfl
    · exact mX_ret rfl
theorem D_X7_append (d : Nat) (h : MH) (a0 : Nat) (a1 : Int32) : mE mtab (d + 1) 25 [.ref a0, .int a1] h = mX (mE mtab d) KX7_append 2 [some (.ref a0), some (.int a1), some (.int 24)] [] h := by
  refine mE_eq (q := (yX7_append, cX7_append, 3, none, KX7_append)) (C := KX7_append) (ls := [some (.ref a0), some (.int a1), none]) rfl rfl rfl rfl ?_
  refine mX_to 2 (k' := 2) (ls' := [some (.ref a0), some (.int a1), some (.int 24)]) (st' := []) (h' := h) rfl ?_
  rfl
theorem D_X10_feed (d : Nat) (h : MH) (a0 : Nat) (a1 : Int32) (a2 : Int32) (a3 : Int32) (a4 : Int32) (a5 : Int32) : mE mtab (d + 1) 26 [.ref a0, .int a1, .int a2, .int a3, .int a4, .int a5] h = ck (kd h a0 = 11) (ck (kd h (gR h a0 3) = 8) ((if ((gI h (gR h a0 3) 1) + 20) ≤ 300 then ck (kd h a0 = 11) (ck (kd h (gR h a0 3) = 8) (cV (mE mtab d 25 [.ref (gR h a0 3), .int a1] h) (fun h1 => ck (kd h1 a0 = 11) (ck (kd h1 (gR h1 a0 3) = 8) (cV (mE mtab d 25 [.ref (gR h1 a0 3), .int a2] h1) (fun h2 => ck (kd h2 a0 = 11) (ck (kd h2 (gR h2 a0 3) = 8) (cV (mE mtab d 25 [.ref (gR h2 a0 3), .int a3] h2) (fun h3 => ck (kd h3 a0 = 11) (ck (kd h3 (gR h3 a0 3) = 8) (cV (mE mtab d 25 [.ref (gR h3 a0 3), .int a4] h3) (fun h4 => ck (kd h4 a0 = 11) (ck (kd h4 (gR h4 a0 3) = 8) (cV (mE mtab d 25 [.ref (gR h4 a0 3), .int a5] h4) (fun h5 => ck (kd h5 a0 = 11) (ck (kd h5 (gR h5 a0 3) = 8) (some (.int (gI h5 (gR h5 a0 3) 1), h5)))))))))))))))))) else some (.int (-1), h)))) := by
  refine mE_eq (q := (yX10_feed, cX10_feed, 6, (some .int), KX10_feed)) (C := KX10_feed) (ls := [some (.ref a0), some (.int a1), some (.int a2), some (.int a3), some (.int a4), some (.int a5)]) rfl rfl rfl rfl ?_
  refine mX_to 1 (k' := 1) (ls' := [some (.ref a0), some (.int a1), some (.int a2), some (.int a3), some (.int a4), some (.int a5)]) (st' := [.ref a0]) (h' := h) rfl ?_
  refine mX_ck (k' := 2) (ls' := [some (.ref a0), some (.int a1), some (.int a2), some (.int a3), some (.int a4), some (.int a5)]) (st' := [.ref (gR h a0 3)]) (h' := h) rfl ?_
  refine mX_ck (k' := 3) (ls' := [some (.ref a0), some (.int a1), some (.int a2), some (.int a3), some (.int a4), some (.int a5)]) (st' := [.int (gI h (gR h a0 3) 1)]) (h' := h) rfl ?_
  refine mX_to 3 (k' := 6) (ls' := [some (.ref a0), some (.int a1), some (.int a2), some (.int a3), some (.int a4), some (.int a5)]) (st' := [.int 300, .int ((gI h (gR h a0 3) 1) + 20)]) (h' := h) rfl ?_
  refine mX_br (t := 9) (f := 7) (ls' := [some (.ref a0), some (.int a1), some (.int a2), some (.int a3), some (.int a4), some (.int a5)]) (st' := []) (h' := h) rfl ?_ ?_
  · refine mX_to 1 (k' := 10) (ls' := [some (.ref a0), some (.int a1), some (.int a2), some (.int a3), some (.int a4), some (.int a5)]) (st' := [.ref a0]) (h' := h) rfl ?_
    refine mX_ck (k' := 11) (ls' := [some (.ref a0), some (.int a1), some (.int a2), some (.int a3), some (.int a4), some (.int a5)]) (st' := [.ref (gR h a0 3)]) (h' := h) rfl ?_
    refine mX_to 1 (k' := 12) (ls' := [some (.ref a0), some (.int a1), some (.int a2), some (.int a3), some (.int a4), some (.int a5)]) (st' := [.int a1, .ref (gR h a0 3)]) (h' := h) rfl ?_
    refine mX_ckc (m := mcl (mE mtab d 25 [.ref (gR h a0 3), .int a1] h) 0 13 [some (.ref a0), some (.int a1), some (.int a2), some (.int a3), some (.int a4), some (.int a5)] []) rfl ?_
    refine mk_cV ?_
    intro h1
    refine mX_to 1 (k' := 14) (ls' := [some (.ref a0), some (.int a1), some (.int a2), some (.int a3), some (.int a4), some (.int a5)]) (st' := [.ref a0]) (h' := h1) rfl ?_
    refine mX_ck (k' := 15) (ls' := [some (.ref a0), some (.int a1), some (.int a2), some (.int a3), some (.int a4), some (.int a5)]) (st' := [.ref (gR h1 a0 3)]) (h' := h1) rfl ?_
    refine mX_to 1 (k' := 16) (ls' := [some (.ref a0), some (.int a1), some (.int a2), some (.int a3), some (.int a4), some (.int a5)]) (st' := [.int a2, .ref (gR h1 a0 3)]) (h' := h1) rfl ?_
    refine mX_ckc (m := mcl (mE mtab d 25 [.ref (gR h1 a0 3), .int a2] h1) 0 17 [some (.ref a0), some (.int a1), some (.int a2), some (.int a3), some (.int a4), some (.int a5)] []) rfl ?_
    refine mk_cV ?_
    intro h2
    refine mX_to 1 (k' := 18) (ls' := [some (.ref a0), some (.int a1), some (.int a2), some (.int a3), some (.int a4), some (.int a5)]) (st' := [.ref a0]) (h' := h2) rfl ?_
    refine mX_ck (k' := 19) (ls' := [some (.ref a0), some (.int a1), some (.int a2), some (.int a3), some (.int a4), some (.int a5)]) (st' := [.ref (gR h2 a0 3)]) (h' := h2) rfl ?_
    refine mX_to 1 (k' := 20) (ls' := [some (.ref a0), some (.int a1), some (.int a2), some (.int a3), some (.int a4), some (.int a5)]) (st' := [.int a3, .ref (gR h2 a0 3)]) (h' := h2) rfl ?_
    refine mX_ckc (m := mcl (mE mtab d 25 [.ref (gR h2 a0 3), .int a3] h2) 0 21 [some (.ref a0), some (.int a1), some (.int a2), some (.int a3), some (.int a4), some (.int a5)] []) rfl ?_
    refine mk_cV ?_
    intro h3
    refine mX_to 1 (k' := 22) (ls' := [some (.ref a0), some (.int a1), some (.int a2), some (.int a3), some (.int a4), some (.int a5)]) (st' := [.ref a0]) (h' := h3) rfl ?_
    refine mX_ck (k' := 23) (ls' := [some (.ref a0), some (.int a1), some (.int a2), some (.int a3), some (.int a4), some (.int a5)]) (st' := [.ref (gR h3 a0 3)]) (h' := h3) rfl ?_
    refine mX_to 1 (k' := 24) (ls' := [some (.ref a0), some (.int a1), some (.int a2), some (.int a3), some (.int a4), some (.int a5)]) (st' := [.int a4, .ref (gR h3 a0 3)]) (h' := h3) rfl ?_
    refine mX_ckc (m := mcl (mE mtab d 25 [.ref (gR h3 a0 3), .int a4] h3) 0 25 [some (.ref a0), some (.int a1), some (.int a2), some (.int a3), some (.int a4), some (.int a5)] []) rfl ?_
    refine mk_cV ?_
    intro h4
    refine mX_to 1 (k' := 26) (ls' := [some (.ref a0), some (.int a1), some (.int a2), some (.int a3), some (.int a4), some (.int a5)]) (st' := [.ref a0]) (h' := h4) rfl ?_
    refine mX_ck (k' := 27) (ls' := [some (.ref a0), some (.int a1), some (.int a2), some (.int a3), some (.int a4), some (.int a5)]) (st' := [.ref (gR h4 a0 3)]) (h' := h4) rfl ?_
    refine mX_to 1 (k' := 28) (ls' := [some (.ref a0), some (.int a1), some (.int a2), some (.int a3), some (.int a4), some (.int a5)]) (st' := [.int a5, .ref (gR h4 a0 3)]) (h' := h4) rfl ?_
    refine mX_ckc (m := mcl (mE mtab d 25 [.ref (gR h4 a0 3), .int a5] h4) 0 29 [some (.ref a0), some (.int a1), some (.int a2), some (.int a3), some (.int a4), some (.int a5)] []) rfl ?_
    refine mk_cV ?_
    intro h5
    refine mX_to 1 (k' := 30) (ls' := [some (.ref a0), some (.int a1), some (.int a2), some (.int a3), some (.int a4), some (.int a5)]) (st' := [.ref a0]) (h' := h5) rfl ?_
    refine mX_ck (k' := 31) (ls' := [some (.ref a0), some (.int a1), some (.int a2), some (.int a3), some (.int a4), some (.int a5)]) (st' := [.ref (gR h5 a0 3)]) (h' := h5) rfl ?_
    refine mX_ck (k' := 32) (ls' := [some (.ref a0), some (.int a1), some (.int a2), some (.int a3), some (.int a4), some (.int a5)]) (st' := [.int (gI h5 (gR h5 a0 3) 1)]) (h' := h5) rfl ?_
    exact mX_reti rfl
  · refine mX_to 1 (k' := 8) (ls' := [some (.ref a0), some (.int a1), some (.int a2), some (.int a3), some (.int a4), some (.int a5)]) (st' := [.int (-1)]) (h' := h) rfl ?_
    exact mX_reti rfl
theorem D_X11_four_2 (d : Nat) (h : MH) (l0 : Nat) (l1 : Int32) (l2 : Int32) : mX (mE mtab d) KX11_four 2 [some (.ref l0), some (.int l1), some (.int l2)] [] h = (if l2 < 0 then some (.int 0, h) else ck (kd h l0 = 12) (ck (kd h l0 = 12) (ck (kd h (gR h l0 3) = 20 ∧ ib (gI h l0 4) (ln h (gR h l0 3))) (lt_ (sI h (gR h l0 3) (ix (gI h l0 4)) ((l1 >>> (l2 &&& 31)) &&& 255)) fun h1 => ck (kd h1 l0 = 12) (ck (kd h1 l0 = 12) (lt_ (sI h1 l0 4 ((gI h1 l0 4) + 1)) fun h2 => mX (mE mtab d) KX11_four 2 [some (.ref l0), some (.int l1), some (.int (l2 + (-8)))] [] h2)))))) := by
  refine mX_to 1 (k' := 3) (ls' := [some (.ref l0), some (.int l1), some (.int l2)]) (st' := [.int l2]) (h' := h) rfl ?_
  refine mX_br (t := 22) (f := 4) (ls' := [some (.ref l0), some (.int l1), some (.int l2)]) (st' := []) (h' := h) rfl ?_ ?_
  · exact mX_ret rfl
  · refine mX_to 1 (k' := 5) (ls' := [some (.ref l0), some (.int l1), some (.int l2)]) (st' := [.ref l0]) (h' := h) rfl ?_
    refine mX_ck (k' := 6) (ls' := [some (.ref l0), some (.int l1), some (.int l2)]) (st' := [.ref (gR h l0 3)]) (h' := h) rfl ?_
    refine mX_to 1 (k' := 7) (ls' := [some (.ref l0), some (.int l1), some (.int l2)]) (st' := [.ref l0, .ref (gR h l0 3)]) (h' := h) rfl ?_
    refine mX_ck (k' := 8) (ls' := [some (.ref l0), some (.int l1), some (.int l2)]) (st' := [.int (gI h l0 4), .ref (gR h l0 3)]) (h' := h) rfl ?_
    refine mX_to 5 (k' := 13) (ls' := [some (.ref l0), some (.int l1), some (.int l2)]) (st' := [.int ((l1 >>> (l2 &&& 31)) &&& 255), .int (gI h l0 4), .ref (gR h l0 3)]) (h' := h) rfl ?_
    refine mX_ck (k' := 14) (ls' := [some (.ref l0), some (.int l1), some (.int l2)]) (st' := []) (h' := (sI h (gR h l0 3) (ix (gI h l0 4)) ((l1 >>> (l2 &&& 31)) &&& 255))) rfl ?_
    refine lt_gen (X := fun h1 : MH => mX (mE mtab d) KX11_four 14 [some (.ref l0), some (.int l1), some (.int l2)] [] h1) fun h1 => ?_
    refine mX_to 2 (k' := 16) (ls' := [some (.ref l0), some (.int l1), some (.int l2)]) (st' := [.ref l0, .ref l0]) (h' := h1) rfl ?_
    refine mX_ck (k' := 17) (ls' := [some (.ref l0), some (.int l1), some (.int l2)]) (st' := [.int (gI h1 l0 4), .ref l0]) (h' := h1) rfl ?_
    refine mX_to 2 (k' := 19) (ls' := [some (.ref l0), some (.int l1), some (.int l2)]) (st' := [.int ((gI h1 l0 4) + 1), .ref l0]) (h' := h1) rfl ?_
    refine mX_ck (k' := 20) (ls' := [some (.ref l0), some (.int l1), some (.int l2)]) (st' := []) (h' := (sI h1 l0 4 ((gI h1 l0 4) + 1))) rfl ?_
    refine lt_gen (X := fun h2 : MH => mX (mE mtab d) KX11_four 20 [some (.ref l0), some (.int l1), some (.int l2)] [] h2) fun h2 => ?_
    refine mX_to 2 (k' := 2) (ls' := [some (.ref l0), some (.int l1), some (.int (l2 + (-8)))]) (st' := []) (h' := h2) rfl ?_
    rfl
theorem D_X11_four (d : Nat) (h : MH) (a0 : Nat) (a1 : Int32) : mE mtab (d + 1) 27 [.ref a0, .int a1] h = mX (mE mtab d) KX11_four 2 [some (.ref a0), some (.int a1), some (.int 24)] [] h := by
  refine mE_eq (q := (yX11_four, cX11_four, 3, none, KX11_four)) (C := KX11_four) (ls := [some (.ref a0), some (.int a1), none]) rfl rfl rfl rfl ?_
  refine mX_to 2 (k' := 2) (ls' := [some (.ref a0), some (.int a1), some (.int 24)]) (st' := []) (h' := h) rfl ?_
  rfl
theorem D_X11_feed (d : Nat) (h : MH) (a0 : Nat) (a1 : Int32) (a2 : Int32) (a3 : Int32) (a4 : Int32) (a5 : Int32) : mE mtab (d + 1) 28 [.ref a0, .int a1, .int a2, .int a3, .int a4, .int a5] h = ck (kd h a0 = 12) ((if ((gI h a0 4) + 20) ≤ 300 then ck (kd h a0 = 12) (cV (mE mtab d 27 [.ref a0, .int a1] h) (fun h1 => ck (kd h1 a0 = 12) (cV (mE mtab d 27 [.ref a0, .int a2] h1) (fun h2 => ck (kd h2 a0 = 12) (cV (mE mtab d 27 [.ref a0, .int a3] h2) (fun h3 => ck (kd h3 a0 = 12) (cV (mE mtab d 27 [.ref a0, .int a4] h3) (fun h4 => ck (kd h4 a0 = 12) (cV (mE mtab d 27 [.ref a0, .int a5] h4) (fun h5 => ck (kd h5 a0 = 12) (some (.int (gI h5 a0 4), h5)))))))))))) else some (.int (-1), h))) := by
  refine mE_eq (q := (yX11_feed, cX11_feed, 6, (some .int), KX11_feed)) (C := KX11_feed) (ls := [some (.ref a0), some (.int a1), some (.int a2), some (.int a3), some (.int a4), some (.int a5)]) rfl rfl rfl rfl ?_
  refine mX_to 1 (k' := 1) (ls' := [some (.ref a0), some (.int a1), some (.int a2), some (.int a3), some (.int a4), some (.int a5)]) (st' := [.ref a0]) (h' := h) rfl ?_
  refine mX_ck (k' := 2) (ls' := [some (.ref a0), some (.int a1), some (.int a2), some (.int a3), some (.int a4), some (.int a5)]) (st' := [.int (gI h a0 4)]) (h' := h) rfl ?_
  refine mX_to 3 (k' := 5) (ls' := [some (.ref a0), some (.int a1), some (.int a2), some (.int a3), some (.int a4), some (.int a5)]) (st' := [.int 300, .int ((gI h a0 4) + 20)]) (h' := h) rfl ?_
  refine mX_br (t := 8) (f := 6) (ls' := [some (.ref a0), some (.int a1), some (.int a2), some (.int a3), some (.int a4), some (.int a5)]) (st' := []) (h' := h) rfl ?_ ?_
  · refine mX_to 2 (k' := 10) (ls' := [some (.ref a0), some (.int a1), some (.int a2), some (.int a3), some (.int a4), some (.int a5)]) (st' := [.int a1, .ref a0]) (h' := h) rfl ?_
    refine mX_ckc (m := mcl (mE mtab d 27 [.ref a0, .int a1] h) 0 11 [some (.ref a0), some (.int a1), some (.int a2), some (.int a3), some (.int a4), some (.int a5)] []) rfl ?_
    refine mk_cV ?_
    intro h1
    refine mX_to 2 (k' := 13) (ls' := [some (.ref a0), some (.int a1), some (.int a2), some (.int a3), some (.int a4), some (.int a5)]) (st' := [.int a2, .ref a0]) (h' := h1) rfl ?_
    refine mX_ckc (m := mcl (mE mtab d 27 [.ref a0, .int a2] h1) 0 14 [some (.ref a0), some (.int a1), some (.int a2), some (.int a3), some (.int a4), some (.int a5)] []) rfl ?_
    refine mk_cV ?_
    intro h2
    refine mX_to 2 (k' := 16) (ls' := [some (.ref a0), some (.int a1), some (.int a2), some (.int a3), some (.int a4), some (.int a5)]) (st' := [.int a3, .ref a0]) (h' := h2) rfl ?_
    refine mX_ckc (m := mcl (mE mtab d 27 [.ref a0, .int a3] h2) 0 17 [some (.ref a0), some (.int a1), some (.int a2), some (.int a3), some (.int a4), some (.int a5)] []) rfl ?_
    refine mk_cV ?_
    intro h3
    refine mX_to 2 (k' := 19) (ls' := [some (.ref a0), some (.int a1), some (.int a2), some (.int a3), some (.int a4), some (.int a5)]) (st' := [.int a4, .ref a0]) (h' := h3) rfl ?_
    refine mX_ckc (m := mcl (mE mtab d 27 [.ref a0, .int a4] h3) 0 20 [some (.ref a0), some (.int a1), some (.int a2), some (.int a3), some (.int a4), some (.int a5)] []) rfl ?_
    refine mk_cV ?_
    intro h4
    refine mX_to 2 (k' := 22) (ls' := [some (.ref a0), some (.int a1), some (.int a2), some (.int a3), some (.int a4), some (.int a5)]) (st' := [.int a5, .ref a0]) (h' := h4) rfl ?_
    refine mX_ckc (m := mcl (mE mtab d 27 [.ref a0, .int a5] h4) 0 23 [some (.ref a0), some (.int a1), some (.int a2), some (.int a3), some (.int a4), some (.int a5)] []) rfl ?_
    refine mk_cV ?_
    intro h5
    refine mX_to 1 (k' := 24) (ls' := [some (.ref a0), some (.int a1), some (.int a2), some (.int a3), some (.int a4), some (.int a5)]) (st' := [.ref a0]) (h' := h5) rfl ?_
    refine mX_ck (k' := 25) (ls' := [some (.ref a0), some (.int a1), some (.int a2), some (.int a3), some (.int a4), some (.int a5)]) (st' := [.int (gI h5 a0 4)]) (h' := h5) rfl ?_
    exact mX_reti rfl
  · refine mX_to 1 (k' := 7) (ls' := [some (.ref a0), some (.int a1), some (.int a2), some (.int a3), some (.int a4), some (.int a5)]) (st' := [.int (-1)]) (h' := h) rfl ?_
    exact mX_reti rfl
theorem D_X10_end (d : Nat) (h : MH) (a0 : Nat) (a1 : Int32) : mE mtab (d + 1) 29 [.ref a0, .int a1] h = ck (kd h a0 = 11) (ck (kd h (gR h a0 3) = 8) (cI (mE mtab d 11 [.int a1, .int 0, .int (gI h (gR h a0 3) 1)] h) (fun x2 h1 => (if x2 = 0 then some (.int (-1), h1) else ck (kd h1 a0 = 11) (ck (kd h1 (gR h1 a0 3) = 8) (lt_ (sI h1 (gR h1 a0 3) 1 a1) fun h3 => some (.int a1, h3))))))) := by
  refine mE_eq (q := (yX10_end, cX10_end, 2, (some .int), KX10_end)) (C := KX10_end) (ls := [some (.ref a0), some (.int a1)]) rfl rfl rfl rfl ?_
  refine mX_to 3 (k' := 3) (ls' := [some (.ref a0), some (.int a1)]) (st' := [.ref a0, .int 0, .int a1]) (h' := h) rfl ?_
  refine mX_ck (k' := 4) (ls' := [some (.ref a0), some (.int a1)]) (st' := [.ref (gR h a0 3), .int 0, .int a1]) (h' := h) rfl ?_
  refine mX_ck (k' := 5) (ls' := [some (.ref a0), some (.int a1)]) (st' := [.int (gI h (gR h a0 3) 1), .int 0, .int a1]) (h' := h) rfl ?_
  refine mX_cI (o := mE mtab d 11 [.int a1, .int 0, .int (gI h (gR h a0 3) 1)] h) (k' := 6) (ls' := [some (.ref a0), some (.int a1)]) (st' := []) rfl ?_
  intro x2 h1
  refine mX_br (t := 7) (f := 9) (ls' := [some (.ref a0), some (.int a1)]) (st' := []) (h' := h1) rfl ?_ ?_
  · refine mX_to 1 (k' := 8) (ls' := [some (.ref a0), some (.int a1)]) (st' := [.int (-1)]) (h' := h1) rfl ?_
    exact mX_reti rfl
  · refine mX_to 1 (k' := 10) (ls' := [some (.ref a0), some (.int a1)]) (st' := [.ref a0]) (h' := h1) rfl ?_
    refine mX_ck (k' := 11) (ls' := [some (.ref a0), some (.int a1)]) (st' := [.ref (gR h1 a0 3)]) (h' := h1) rfl ?_
    refine mX_to 1 (k' := 12) (ls' := [some (.ref a0), some (.int a1)]) (st' := [.int a1, .ref (gR h1 a0 3)]) (h' := h1) rfl ?_
    refine mX_ck (k' := 13) (ls' := [some (.ref a0), some (.int a1)]) (st' := []) (h' := (sI h1 (gR h1 a0 3) 1 a1)) rfl ?_
    refine lt_gen (X := fun h3 : MH => mX (mE mtab d) KX10_end 13 [some (.ref a0), some (.int a1)] [] h3) fun h3 => ?_
    refine mX_to 1 (k' := 14) (ls' := [some (.ref a0), some (.int a1)]) (st' := [.int a1]) (h' := h3) rfl ?_
    exact mX_reti rfl
theorem D_X11_end (d : Nat) (h : MH) (a0 : Nat) (a1 : Int32) : mE mtab (d + 1) 30 [.ref a0, .int a1] h = ck (kd h a0 = 12) (cI (mE mtab d 14 [.int a1, .int 0, .int (gI h a0 4)] h) (fun x2 h1 => (if x2 = 0 then some (.int (-1), h1) else ck (kd h1 a0 = 12) (lt_ (sI h1 a0 4 a1) fun h3 => some (.int a1, h3))))) := by
  refine mE_eq (q := (yX11_end, cX11_end, 2, (some .int), KX11_end)) (C := KX11_end) (ls := [some (.ref a0), some (.int a1)]) rfl rfl rfl rfl ?_
  refine mX_to 3 (k' := 3) (ls' := [some (.ref a0), some (.int a1)]) (st' := [.ref a0, .int 0, .int a1]) (h' := h) rfl ?_
  refine mX_ck (k' := 4) (ls' := [some (.ref a0), some (.int a1)]) (st' := [.int (gI h a0 4), .int 0, .int a1]) (h' := h) rfl ?_
  refine mX_cI (o := mE mtab d 14 [.int a1, .int 0, .int (gI h a0 4)] h) (k' := 5) (ls' := [some (.ref a0), some (.int a1)]) (st' := []) rfl ?_
  intro x2 h1
  refine mX_br (t := 6) (f := 8) (ls' := [some (.ref a0), some (.int a1)]) (st' := []) (h' := h1) rfl ?_ ?_
  · refine mX_to 1 (k' := 7) (ls' := [some (.ref a0), some (.int a1)]) (st' := [.int (-1)]) (h' := h1) rfl ?_
    exact mX_reti rfl
  · refine mX_to 2 (k' := 10) (ls' := [some (.ref a0), some (.int a1)]) (st' := [.int a1, .ref a0]) (h' := h1) rfl ?_
    refine mX_ck (k' := 11) (ls' := [some (.ref a0), some (.int a1)]) (st' := []) (h' := (sI h1 a0 4 a1)) rfl ?_
    refine lt_gen (X := fun h3 : MH => mX (mE mtab d) KX11_end 11 [some (.ref a0), some (.int a1)] [] h3) fun h3 => ?_
    refine mX_to 1 (k' := 12) (ls' := [some (.ref a0), some (.int a1)]) (st' := [.int a1]) (h' := h3) rfl ?_
    exact mX_reti rfl
theorem D_X7_isBlank (d : Nat) (h : MH) (a0 : Int32) : mE mtab (d + 1) 31 [.int a0] h = (if a0 = 32 then some (.int 1, h) else (if a0 = 10 then some (.int 1, h) else some (.int 0, h))) := by
  refine mE_eq (q := (yX7_isBlank, cX7_isBlank, 1, (some .boolean), KX7_isBlank)) (C := KX7_isBlank) (ls := [some (.int a0)]) rfl rfl rfl rfl ?_
  refine mX_to 2 (k' := 2) (ls' := [some (.int a0)]) (st' := [.int 32, .int a0]) (h' := h) rfl ?_
  refine mX_br (t := 6) (f := 3) (ls' := [some (.int a0)]) (st' := []) (h' := h) rfl ?_ ?_
  · refine mX_to 2 (k' := 9) (ls' := [some (.int a0)]) (st' := [.int 1]) (h' := h) rfl ?_
    exact mX_retb (by decide) rfl
  · refine mX_to 2 (k' := 5) (ls' := [some (.int a0)]) (st' := [.int 10, .int a0]) (h' := h) rfl ?_
    refine mX_br (t := 6) (f := 8) (ls' := [some (.int a0)]) (st' := []) (h' := h) rfl ?_ ?_
    · refine mX_to 2 (k' := 9) (ls' := [some (.int a0)]) (st' := [.int 1]) (h' := h) rfl ?_
      exact mX_retb (by decide) rfl
    · refine mX_to 1 (k' := 9) (ls' := [some (.int a0)]) (st' := [.int 0]) (h' := h) rfl ?_
      exact mX_retb (by decide) rfl
theorem D_X7_isDigit (d : Nat) (h : MH) (a0 : Int32) : mE mtab (d + 1) 32 [.int a0] h = (if a0 < 48 then some (.int 0, h) else (if a0 ≤ 57 then some (.int 1, h) else some (.int 0, h))) := by
  refine mE_eq (q := (yX7_isDigit, cX7_isDigit, 1, (some .boolean), KX7_isDigit)) (C := KX7_isDigit) (ls := [some (.int a0)]) rfl rfl rfl rfl ?_
  refine mX_to 2 (k' := 2) (ls' := [some (.int a0)]) (st' := [.int 48, .int a0]) (h' := h) rfl ?_
  refine mX_br (t := 8) (f := 3) (ls' := [some (.int a0)]) (st' := []) (h' := h) rfl ?_ ?_
  · refine mX_to 1 (k' := 9) (ls' := [some (.int a0)]) (st' := [.int 0]) (h' := h) rfl ?_
    exact mX_retb (by decide) rfl
  · refine mX_to 2 (k' := 5) (ls' := [some (.int a0)]) (st' := [.int 57, .int a0]) (h' := h) rfl ?_
    refine mX_br (t := 6) (f := 8) (ls' := [some (.int a0)]) (st' := []) (h' := h) rfl ?_ ?_
    · refine mX_to 2 (k' := 9) (ls' := [some (.int a0)]) (st' := [.int 1]) (h' := h) rfl ?_
      exact mX_retb (by decide) rfl
    · refine mX_to 1 (k' := 9) (ls' := [some (.int a0)]) (st' := [.int 0]) (h' := h) rfl ?_
      exact mX_retb (by decide) rfl
theorem D_X7_add (d : Nat) (h : MH) (a0 : Nat) (a1 : Int32) (a2 : Int32) (a3 : Int32) : mE mtab (d + 1) 33 [.ref a0, .int a1, .int a2, .int a3] h = ck (kd h a0 = 8) ((if (gI h a0 5) ≤ 300 then ck (kd h a0 = 8) (ck (kd h a0 = 8) (ck (kd h (gR h a0 2) = 20 ∧ ib (gI h a0 5) (ln h (gR h a0 2))) (lt_ (sI h (gR h a0 2) (ix (gI h a0 5)) a1) fun h1 => ck (kd h1 a0 = 8) (ck (kd h1 a0 = 8) (ck (kd h1 (gR h1 a0 3) = 20 ∧ ib (gI h1 a0 5) (ln h1 (gR h1 a0 3))) (lt_ (sI h1 (gR h1 a0 3) (ix (gI h1 a0 5)) a2) fun h2 => ck (kd h2 a0 = 8) (ck (kd h2 a0 = 8) (ck (kd h2 (gR h2 a0 4) = 20 ∧ ib (gI h2 a0 5) (ln h2 (gR h2 a0 4))) (lt_ (sI h2 (gR h2 a0 4) (ix (gI h2 a0 5)) a3) fun h3 => ck (kd h3 a0 = 8) (ck (kd h3 a0 = 8) (lt_ (sI h3 a0 5 ((gI h3 a0 5) + 1)) fun h4 => some (.int 0, h4)))))))))))) else some (.int 0, h))) := by
  refine mE_eq (q := (yX7_add, cX7_add, 4, none, KX7_add)) (C := KX7_add) (ls := [some (.ref a0), some (.int a1), some (.int a2), some (.int a3)]) rfl rfl rfl rfl ?_
  refine mX_to 1 (k' := 1) (ls' := [some (.ref a0), some (.int a1), some (.int a2), some (.int a3)]) (st' := [.ref a0]) (h' := h) rfl ?_
  refine mX_ck (k' := 2) (ls' := [some (.ref a0), some (.int a1), some (.int a2), some (.int a3)]) (st' := [.int (gI h a0 5)]) (h' := h) rfl ?_
  refine mX_to 1 (k' := 3) (ls' := [some (.ref a0), some (.int a1), some (.int a2), some (.int a3)]) (st' := [.int 300, .int (gI h a0 5)]) (h' := h) rfl ?_
  refine mX_br (t := 4) (f := 28) (ls' := [some (.ref a0), some (.int a1), some (.int a2), some (.int a3)]) (st' := []) (h' := h) rfl ?_ ?_
  · refine mX_to 1 (k' := 5) (ls' := [some (.ref a0), some (.int a1), some (.int a2), some (.int a3)]) (st' := [.ref a0]) (h' := h) rfl ?_
    refine mX_ck (k' := 6) (ls' := [some (.ref a0), some (.int a1), some (.int a2), some (.int a3)]) (st' := [.ref (gR h a0 2)]) (h' := h) rfl ?_
    refine mX_to 1 (k' := 7) (ls' := [some (.ref a0), some (.int a1), some (.int a2), some (.int a3)]) (st' := [.ref a0, .ref (gR h a0 2)]) (h' := h) rfl ?_
    refine mX_ck (k' := 8) (ls' := [some (.ref a0), some (.int a1), some (.int a2), some (.int a3)]) (st' := [.int (gI h a0 5), .ref (gR h a0 2)]) (h' := h) rfl ?_
    refine mX_to 1 (k' := 9) (ls' := [some (.ref a0), some (.int a1), some (.int a2), some (.int a3)]) (st' := [.int a1, .int (gI h a0 5), .ref (gR h a0 2)]) (h' := h) rfl ?_
    refine mX_ck (k' := 10) (ls' := [some (.ref a0), some (.int a1), some (.int a2), some (.int a3)]) (st' := []) (h' := (sI h (gR h a0 2) (ix (gI h a0 5)) a1)) rfl ?_
    refine lt_gen (X := fun h1 : MH => mX (mE mtab d) KX7_add 10 [some (.ref a0), some (.int a1), some (.int a2), some (.int a3)] [] h1) fun h1 => ?_
    refine mX_to 1 (k' := 11) (ls' := [some (.ref a0), some (.int a1), some (.int a2), some (.int a3)]) (st' := [.ref a0]) (h' := h1) rfl ?_
    refine mX_ck (k' := 12) (ls' := [some (.ref a0), some (.int a1), some (.int a2), some (.int a3)]) (st' := [.ref (gR h1 a0 3)]) (h' := h1) rfl ?_
    refine mX_to 1 (k' := 13) (ls' := [some (.ref a0), some (.int a1), some (.int a2), some (.int a3)]) (st' := [.ref a0, .ref (gR h1 a0 3)]) (h' := h1) rfl ?_
    refine mX_ck (k' := 14) (ls' := [some (.ref a0), some (.int a1), some (.int a2), some (.int a3)]) (st' := [.int (gI h1 a0 5), .ref (gR h1 a0 3)]) (h' := h1) rfl ?_
    refine mX_to 1 (k' := 15) (ls' := [some (.ref a0), some (.int a1), some (.int a2), some (.int a3)]) (st' := [.int a2, .int (gI h1 a0 5), .ref (gR h1 a0 3)]) (h' := h1) rfl ?_
    refine mX_ck (k' := 16) (ls' := [some (.ref a0), some (.int a1), some (.int a2), some (.int a3)]) (st' := []) (h' := (sI h1 (gR h1 a0 3) (ix (gI h1 a0 5)) a2)) rfl ?_
    refine lt_gen (X := fun h2 : MH => mX (mE mtab d) KX7_add 16 [some (.ref a0), some (.int a1), some (.int a2), some (.int a3)] [] h2) fun h2 => ?_
    refine mX_to 1 (k' := 17) (ls' := [some (.ref a0), some (.int a1), some (.int a2), some (.int a3)]) (st' := [.ref a0]) (h' := h2) rfl ?_
    refine mX_ck (k' := 18) (ls' := [some (.ref a0), some (.int a1), some (.int a2), some (.int a3)]) (st' := [.ref (gR h2 a0 4)]) (h' := h2) rfl ?_
    refine mX_to 1 (k' := 19) (ls' := [some (.ref a0), some (.int a1), some (.int a2), some (.int a3)]) (st' := [.ref a0, .ref (gR h2 a0 4)]) (h' := h2) rfl ?_
    refine mX_ck (k' := 20) (ls' := [some (.ref a0), some (.int a1), some (.int a2), some (.int a3)]) (st' := [.int (gI h2 a0 5), .ref (gR h2 a0 4)]) (h' := h2) rfl ?_
    refine mX_to 1 (k' := 21) (ls' := [some (.ref a0), some (.int a1), some (.int a2), some (.int a3)]) (st' := [.int a3, .int (gI h2 a0 5), .ref (gR h2 a0 4)]) (h' := h2) rfl ?_
    refine mX_ck (k' := 22) (ls' := [some (.ref a0), some (.int a1), some (.int a2), some (.int a3)]) (st' := []) (h' := (sI h2 (gR h2 a0 4) (ix (gI h2 a0 5)) a3)) rfl ?_
    refine lt_gen (X := fun h3 : MH => mX (mE mtab d) KX7_add 22 [some (.ref a0), some (.int a1), some (.int a2), some (.int a3)] [] h3) fun h3 => ?_
    refine mX_to 2 (k' := 24) (ls' := [some (.ref a0), some (.int a1), some (.int a2), some (.int a3)]) (st' := [.ref a0, .ref a0]) (h' := h3) rfl ?_
    refine mX_ck (k' := 25) (ls' := [some (.ref a0), some (.int a1), some (.int a2), some (.int a3)]) (st' := [.int (gI h3 a0 5), .ref a0]) (h' := h3) rfl ?_
    refine mX_to 2 (k' := 27) (ls' := [some (.ref a0), some (.int a1), some (.int a2), some (.int a3)]) (st' := [.int ((gI h3 a0 5) + 1), .ref a0]) (h' := h3) rfl ?_
    refine mX_ck (k' := 28) (ls' := [some (.ref a0), some (.int a1), some (.int a2), some (.int a3)]) (st' := []) (h' := (sI h3 a0 5 ((gI h3 a0 5) + 1))) rfl ?_
    refine lt_gen (X := fun h4 : MH => mX (mE mtab d) KX7_add 28 [some (.ref a0), some (.int a1), some (.int a2), some (.int a3)] [] h4) fun h4 => ?_
    exact mX_ret rfl
  · exact mX_ret rfl
theorem D_X7_cutNumber_6 (d : Nat) (h : MH) (l0 : Nat) (l1 : Int32) (l2 : Int32) (l3 : Int32) (l4 : Int32) : mX (mE mtab d) KX7_cutNumber 6 [some (.ref l0), some (.int l1), some (.int l2), some (.int l3), some (.int l4)] [] h = ck (kd h l0 = 8) ((if l4 < (gI h l0 1) then ck (kd h l0 = 8) (ck ((kd h (gR h l0 0) = 20 ∨ kd h (gR h l0 0) = 24) ∧ ib l4 (ln h (gR h l0 0))) (cI (mE mtab d 32 [.int (gI h (gR h l0 0) (ix l4))] h) (fun x2 h1 => (if x2 = 0 then mX (mE mtab d) KX7_cutNumber 35 [some (.ref l0), some (.int l1), some (.int l2), some (.int l3), some (.int l4)] [] h1 else ck (kd h1 l0 = 8) (ck ((kd h1 (gR h1 l0 0) = 20 ∨ kd h1 (gR h1 l0 0) = 24) ∧ ib l4 (ln h1 (gR h1 l0 0))) (lt_ (jmin (((l2 * 10) + (gI h1 (gR h1 l0 0) (ix l4))) - 48) 10000) fun v3 => lt_ (l4 + 1) fun v4 => mX (mE mtab d) KX7_cutNumber 6 [some (.ref l0), some (.int l1), some (.int v3), some (.int v4), some (.int (l4 + 1))] [] h1)))))) else mX (mE mtab d) KX7_cutNumber 35 [some (.ref l0), some (.int l1), some (.int l2), some (.int l3), some (.int l4)] [] h)) := by
  refine mX_to 2 (k' := 8) (ls' := [some (.ref l0), some (.int l1), some (.int l2), some (.int l3), some (.int l4)]) (st' := [.ref l0, .int l4]) (h' := h) rfl ?_
  refine mX_ck (k' := 9) (ls' := [some (.ref l0), some (.int l1), some (.int l2), some (.int l3), some (.int l4)]) (st' := [.int (gI h l0 1), .int l4]) (h' := h) rfl ?_
  refine mX_br (t := 10) (f := 35) (ls' := [some (.ref l0), some (.int l1), some (.int l2), some (.int l3), some (.int l4)]) (st' := []) (h' := h) rfl ?_ ?_
  · refine mX_to 1 (k' := 11) (ls' := [some (.ref l0), some (.int l1), some (.int l2), some (.int l3), some (.int l4)]) (st' := [.ref l0]) (h' := h) rfl ?_
    refine mX_ck (k' := 12) (ls' := [some (.ref l0), some (.int l1), some (.int l2), some (.int l3), some (.int l4)]) (st' := [.ref (gR h l0 0)]) (h' := h) rfl ?_
    refine mX_to 1 (k' := 13) (ls' := [some (.ref l0), some (.int l1), some (.int l2), some (.int l3), some (.int l4)]) (st' := [.int l4, .ref (gR h l0 0)]) (h' := h) rfl ?_
    refine mX_ck (k' := 14) (ls' := [some (.ref l0), some (.int l1), some (.int l2), some (.int l3), some (.int l4)]) (st' := [.int (gI h (gR h l0 0) (ix l4))]) (h' := h) rfl ?_
    refine mX_cI (o := mE mtab d 32 [.int (gI h (gR h l0 0) (ix l4))] h) (k' := 15) (ls' := [some (.ref l0), some (.int l1), some (.int l2), some (.int l3), some (.int l4)]) (st' := []) rfl ?_
    intro x2 h1
    refine mX_br (t := 35) (f := 16) (ls' := [some (.ref l0), some (.int l1), some (.int l2), some (.int l3), some (.int l4)]) (st' := []) (h' := h1) rfl ?_ ?_
    · rfl
    · refine mX_to 4 (k' := 20) (ls' := [some (.ref l0), some (.int l1), some (.int l2), some (.int l3), some (.int l4)]) (st' := [.ref l0, .int (l2 * 10)]) (h' := h1) rfl ?_
      refine mX_ck (k' := 21) (ls' := [some (.ref l0), some (.int l1), some (.int l2), some (.int l3), some (.int l4)]) (st' := [.ref (gR h1 l0 0), .int (l2 * 10)]) (h' := h1) rfl ?_
      refine mX_to 1 (k' := 22) (ls' := [some (.ref l0), some (.int l1), some (.int l2), some (.int l3), some (.int l4)]) (st' := [.int l4, .ref (gR h1 l0 0), .int (l2 * 10)]) (h' := h1) rfl ?_
      refine mX_ck (k' := 23) (ls' := [some (.ref l0), some (.int l1), some (.int l2), some (.int l3), some (.int l4)]) (st' := [.int (gI h1 (gR h1 l0 0) (ix l4)), .int (l2 * 10)]) (h' := h1) rfl ?_
      refine mX_to 5 (k' := 28) (ls' := [some (.ref l0), some (.int l1), some (.int l2), some (.int l3), some (.int l4)]) (st' := [.int (jmin (((l2 * 10) + (gI h1 (gR h1 l0 0) (ix l4))) - 48) 10000)]) (h' := h1) rfl ?_
      refine lt_gen (X := fun v3 : Int32 => mX (mE mtab d) KX7_cutNumber 28 [some (.ref l0), some (.int l1), some (.int l2), some (.int l3), some (.int l4)] [.int v3] h1) fun v3 => ?_
      refine mX_to 4 (k' := 32) (ls' := [some (.ref l0), some (.int l1), some (.int v3), some (.int l3), some (.int l4)]) (st' := [.int (l4 + 1)]) (h' := h1) rfl ?_
      refine lt_gen (X := fun v4 : Int32 => mX (mE mtab d) KX7_cutNumber 32 [some (.ref l0), some (.int l1), some (.int v3), some (.int l3), some (.int l4)] [.int v4] h1) fun v4 => ?_
      refine mX_to 3 (k' := 6) (ls' := [some (.ref l0), some (.int l1), some (.int v3), some (.int v4), some (.int (l4 + 1))]) (st' := []) (h' := h1) rfl ?_
      rfl
  · rfl
theorem D_X7_cutNumber_35 (d : Nat) (h : MH) (l0 : Nat) (l1 : Int32) (l2 : Int32) (l3 : Int32) (l4 : Int32) : mX (mE mtab d) KX7_cutNumber 35 [some (.ref l0), some (.int l1), some (.int l2), some (.int l3), some (.int l4)] [] h = ck (kd h l0 = 8) (cV (mE mtab d 33 [.ref l0, .int 258, .int l1, .int l2] h) (fun h6 => some (.int l3, h6))) := by
  refine mX_to 4 (k' := 39) (ls' := [some (.ref l0), some (.int l1), some (.int l2), some (.int l3), some (.int l4)]) (st' := [.int l2, .int l1, .int 258, .ref l0]) (h' := h) rfl ?_
  refine mX_ckc (m := mcl (mE mtab d 33 [.ref l0, .int 258, .int l1, .int l2] h) 0 40 [some (.ref l0), some (.int l1), some (.int l2), some (.int l3), some (.int l4)] []) rfl ?_
  refine mk_cV ?_
  intro h6
  refine mX_to 1 (k' := 41) (ls' := [some (.ref l0), some (.int l1), some (.int l2), some (.int l3), some (.int l4)]) (st' := [.int l3]) (h' := h6) rfl ?_
  exact mX_reti rfl
theorem D_X7_cutNumber (d : Nat) (h : MH) (a0 : Nat) (a1 : Int32) : mE mtab (d + 1) 34 [.ref a0, .int a1] h = mX (mE mtab d) KX7_cutNumber 6 [some (.ref a0), some (.int a1), some (.int 0), some (.int a1), some (.int a1)] [] h := by
  refine mE_eq (q := (yX7_cutNumber, cX7_cutNumber, 5, (some .int), KX7_cutNumber)) (C := KX7_cutNumber) (ls := [some (.ref a0), some (.int a1), none, none, none]) rfl rfl rfl rfl ?_
  refine mX_to 6 (k' := 6) (ls' := [some (.ref a0), some (.int a1), some (.int 0), some (.int a1), some (.int a1)]) (st' := []) (h' := h) rfl ?_
  rfl
